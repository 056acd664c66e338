/-! ===== reach, yield and cost, both sides ===== -/
def oz_rc (a : Nat → Nat) (L : List (Nat × Nat × List Nat)) (i : Nat) : Nat := min 6 (oz_bed a i 1 + oz_sun (oz_ga a i) 0 L - oz_sun (oz_ga a i) 1 L)
def oz_co (a : Nat → Nat) (L : List (Nat × Nat × List Nat)) (i : Nat) : Nat := 5 + oz_sun (oz_ga a i) 2 L
def oz_yi (a : Nat → Nat) (L : List (Nat × Nat × List Nat)) (i : Nat) : Nat := if oz_rc a L i = 0 then 0 else 2 * oz_bed a i 2
/-- the text of the law that the row holds -/
def oz_ttx (a : Nat → Nat) : Nat → Nat := fun i => if i < a 2 then a (366 + i) else 0
/-- the class's law at q is the one of the row, its lines L -/
def oz_LW (s : lf_S) (q : Nat) (a : Nat → Nat) (L : List (Nat × Nat × List Nat)) : Prop := (a 1 = 4294967295 ∧ L = [] ∧ s.1 q 0 = nI (a 1)) ∨ (a 1 = L.length ∧ a 2 ≤ 400 ∧ (∀ i, i < a 2 → a (366 + i) ≤ 255) ∧ (oz_lrA (oz_ttx a) (a 2)).2.isRight = true ∧ (oz_lrA (oz_ttx a) (a 2)).1 = L ∧ oz_CL2 s q L)
theorem oz_LW_1 {s : lf_S} {q : Nat} {a : Nat → Nat} {L : List (Nat × Nat × List Nat)} (h : oz_LW s q a L) : s.1 q 0 = nI (a 1) := by
  rcases h with ⟨_, _, h⟩ | ⟨h1, _, _, _, _, h2⟩
  · exact h
  · rw [h1]; exact h2.1
theorem oz_LW_cg {s t : lf_S} {q : Nat} {a e : Nat → Nat} {L : List (Nat × Nat × List Nat)} (h : oz_LW s q a L) (f : ∀ p, q ≤ p → p < q + 5 → t.1 p = s.1 p) (h1 : e 1 = a 1) (h2 : e 2 = a 2) (h3 : ∀ j, 366 ≤ j → e j = a j) : oz_LW t q e L := by
  have eT : oz_ttx e = oz_ttx a := by
    funext i
    unfold oz_ttx
    rw [h2, h3 (366 + i) (by omega)]
  unfold oz_LW
  rw [h1, h2, eT]
  rcases h with ⟨g1, g2, g3⟩ | ⟨g1, g2, g3, g4, g5, g6⟩
  · exact Or.inl ⟨g1, g2, by rw [f q (by omega) (by omega)]; exact g3⟩
  · exact Or.inr ⟨g1, g2, fun i hi => by rw [h3 _ (by omega)]; exact g3 i hi, g4, g5, oz_CL2_fr g6 f⟩
theorem oz_LW_wf {s : lf_S} {q : Nat} {a : Nat → Nat} {L : List (Nat × Nat × List Nat)} (h : oz_LW s q a L) : oz_wfL L ∧ L.length ≤ 12 ∧ (oz_fl L).length ≤ 400 := by
  rcases h with ⟨_, h, _⟩ | ⟨h1, h2, _, h4, h5, h6⟩
  · rw [h]
    exact ⟨fun l hl => absurd hl List.not_mem_nil, Nat.zero_le _, Nat.zero_le _⟩
  · have w := oz_wf_lrA h4
    have l := oz_fl_lrA h4
    rw [h5] at w l
    exact ⟨w, h6.2.1, by omega⟩
theorem oz_sub_lt {x y : Nat} (hx : x < 100000) (hy : y < 100000) (h : x < y) : (nI x - nI y).toInt = (x : Int) - (y : Int) := by
  rw [Int32.toInt_sub, oz_ti (by omega), oz_ti (by omega)]
  exact Int.bmod_eq_of_le (by omega) (by omega)
theorem oz_clamp {x y : Nat} (hx : x < 100000) (hy : y < 100000) : lf_mx (nI 0) (lf_mn (nI x - nI y) (nI 6)) = nI (min 6 (x - y)) := by
  by_cases c : y ≤ x
  · rw [oz_sub c, oz_mn (by omega) (by omega), oz_mx (by omega) (by omega), Nat.max_eq_right (Nat.zero_le _), Nat.min_comm]
  · have e := oz_sub_lt hx hy (by omega)
    have n6 : ¬ (nI 6 < nI x - nI y) := by
      rw [Int32.lt_iff_toInt_lt, e, oz_ti (by omega)]; omega
    have n0 : ¬ (nI 0 < nI x - nI y) := by
      rw [Int32.lt_iff_toInt_lt, e, oz_ti (by omega)]; omega
    unfold lf_mx lf_mn
    rw [if_neg n6, if_neg n0, show min 6 (x - y) = 0 by omega]
theorem m_clamp {x y : Nat} (hx : x < 100000) (hy : y < 100000) : (f_Mod_lesser (nI 6) (nI x - nI y)).bind (fun z => f_Mod_greater (nI 0) z) = some (nI (min 6 (x - y))) := by
  by_cases c : y ≤ x
  · rw [oz_sub c, m_lesser (by omega) (by omega), Option.bind_some, m_greater (by omega) (by omega), Nat.max_eq_right (Nat.zero_le _)]
  · have e := oz_sub_lt hx hy (by omega)
    have n6 : nI x - nI y ≤ nI 6 := by
      rw [Int32.le_iff_toInt_le, e, oz_ti (by omega)]; omega
    have n0 : ¬ (nI 0 ≤ nI x - nI y) := by
      rw [Int32.le_iff_toInt_le, e, oz_ti (by omega)]; omega
    unfold f_Mod_lesser f_Mod_greater
    rw [if_pos n6, Option.bind_some, if_neg n0, show min 6 (x - y) = 0 by omega]
section
variable {s : lf_S} {q b i : Nat} {a : Nat → Nat} {L : List (Nat × Nat × List Nat)}
theorem c_sumOf (V : oz_V a) (C : oz_C s b a) (hq : b + 24 ≤ q ∨ q + 6 ≤ b) (hi : i < a 3) {k : Nat} (hk : k < 3) (W : oz_LW s q a L) : ∃ u, f_Law_sumOf q (nI k) b (nI i) s = some (nI (oz_sun (oz_ga a i) k L), u) ∧ oz_fr (fun p => p = q + 5) s u := by
  have w := oz_LW_wf W
  unfold f_Law_sumOf
  simp only [lf_lt]
  rw [pl_0]
  rcases W with ⟨h1, h2, h3⟩ | ⟨h1, h2, h3, h4, h5, h6⟩
  · rw [h2, f_Law_sumOf_6, h3, h1, if_pos (by decide +kernel), Option.bind_some]
    exact ⟨s, rfl, oz_fr_rf⟩
  · obtain ⟨u, k1, k2⟩ := c_sumLoop V hq hi hk L [] s 0 5000 C h6 w.1 w.2.2 (by omega)
    rw [Nat.zero_add] at k1
    have k1' : f_Law_sumOf_6 q b (nI k) (nI i) 5000 (nI 0) (nI 0) s = some (nI (oz_sun (oz_ga a i) k L), u) := k1
    rw [k1', Option.bind_some]
    exact ⟨u, rfl, k2⟩
theorem c_reachOf (V : oz_V a) (C : oz_C s b a) (hq : b + 24 ≤ q ∨ q + 6 ≤ b) (hi : i < a 3) (W : oz_LW s q a L) : ∃ u, f_Law_reachOf q b (nI i) s = some (nI (oz_rc a L i), u) ∧ oz_fr (fun p => p = q + 5) s u := by
  have hv := oz_V6 V
  have v1 := oz_v1 V hi
  unfold oz_V1 at v1
  have w := oz_LW_wf W
  have s0 := oz_sun_le (g := oz_ga a i) (k := 0) L w.1
  have s1 := oz_sun_le (g := oz_ga a i) (k := 1) L w.1
  obtain ⟨u1, k1, k2⟩ := c_sumOf V C hq hi (k := 0) (by omega) W
  have C1 : oz_C u1 b a := oz_C_fr V C (fun p p1 p2 => k2.1 p (by omega))
  obtain ⟨u2, l1, l2⟩ := c_sumOf V C1 hq hi (k := 1) (by omega) (oz_LW_cg W (fun p p1 p2 => k2.1 p (by omega)) rfl rfl (fun _ _ => rfl))
  unfold f_Law_reachOf
  rw [oz_ck (by omega) (by omega), pl_0, pl_1, pl_6, k1, Option.bind_some, l1, Option.bind_some]
  simp only [lf_lt]
  rw [b_2 C.2.1 hi, nI_add, oz_clamp (by omega) (by omega)]
  exact ⟨u2, rfl, oz_fr_tr k2 l2⟩
theorem c_yieldOf (V : oz_V a) (C : oz_C s b a) (hq : b + 24 ≤ q ∨ q + 6 ≤ b) (hi : i < a 3) (W : oz_LW s q a L) : ∃ u, f_Law_yieldOf q b (nI i) s = some (nI (oz_yi a L i), u) ∧ oz_fr (fun p => p = q + 5) s u := by
  have hv := oz_V6 V
  obtain ⟨u1, k1, k2⟩ := c_reachOf V C hq hi W
  have hr : oz_rc a L i ≤ 6 := Nat.min_le_left _ _
  unfold f_Law_yieldOf oz_yi
  rw [k1, Option.bind_some]
  by_cases c : oz_rc a L i = 0
  · rw [if_pos c, if_pos (show nI (oz_rc a L i) = (0 : Int32) by rw [c]; rfl)]
    exact ⟨u1, rfl, k2⟩
  · rw [if_neg c, if_neg (show ¬ (nI (oz_rc a L i) = (0 : Int32)) by rw [pl_0, oz_eq (by omega) (by omega)]; exact c), oz_ck (by omega) (by omega), k2.1 (b + 1 + 3) (by omega), b_3 C.2.1 hi, pl_2, pk_mul]
    exact ⟨u1, rfl, k2⟩
theorem c_costOf (V : oz_V a) (C : oz_C s b a) (hq : b + 24 ≤ q ∨ q + 6 ≤ b) (hi : i < a 3) (W : oz_LW s q a L) : ∃ u, f_Law_costOf q b (nI i) s = some (nI (oz_co a L i), u) ∧ oz_fr (fun p => p = q + 5) s u := by
  obtain ⟨u1, k1, k2⟩ := c_sumOf V C hq hi (k := 2) (by omega) W
  unfold f_Law_costOf
  rw [pl_2, k1, Option.bind_some, pl_5, nI_add]
  exact ⟨u1, rfl, k2⟩
theorem oz_md_pick (s u : lf_S) (a : Nat → Nat) : ∃ t : lf_S, oz_md u a = oz_md t a ∧ t.1 390 = s.1 390 ∧ (∀ p, p ≠ 390 → t.1 p = u.1 p) ∧ t.2 = u.2 := by
  refine ⟨(fun p => if p = 390 then s.1 390 else u.1 p, u.2), oz_S_ext (fun p => ?_) rfl, rfl, fun p hp => if_neg hp, rfl⟩
  by_cases c : p = 390
  · subst c; rfl
  · rw [oz_md_o c, oz_md_o c]
    exact (if_neg c).symm
theorem oz_fe_md {u : lf_S} (f : oz_fe (oz_md s a) u) : u = oz_md u a := by
  refine oz_S_ext (fun p => ?_) rfl
  by_cases c : p = 390
  · rw [c, f.1.1 390 (by omega)]; rfl
  · rw [oz_md_o c]
theorem m_asks24 {t : lf_S} {k fuel : Nat} (hi : i < 6) (hk : k < 4) : f_Mod_asks_24 (nI i) (fuel + 1) (nI k) (oz_md t a) = f_Mod_asks_24 (nI i) fuel (nI (k + 1)) (oz_md (lf_w t 395 (k + 1) (nI (oz_bed a i k))) a) := by
  rw [f_Mod_asks_24, pl_4, oz_ile_f hk (by omega), m_ofBed hi hk, Option.bind_some, pl_1, nI_add, oz_ck (by omega) (by omega)]
  simp only [lf_lt]
  rw [oz_md_wo (by omega)]
theorem m_asks (V : oz_V a) (hi : i < a 3) (W : oz_LW s q a L) : ∃ t, f_Mod_asks (nI i) (oz_md s a) = some (oz_md t a) ∧ t.1 389 15 = nI (oz_rc a L i) ∧ t.1 389 16 = nI (oz_co a L i) ∧ t.1 389 12 = s.1 389 12 ∧ oz_fr (fun p => p = 389 ∨ p = 395) s t ∧ ∀ j, j < 9 → t.1 389 j = s.1 389 j := by
  have hv := oz_V6 V
  have hV := oz_v0 V
  unfold oz_V0 at hV
  have v1 := oz_v1 V hi
  unfold oz_V1 at v1
  have w := oz_LW_wf W
  have s0 := oz_sun_le (g := oz_ga a i) (k := 0) L w.1
  have s1 := oz_sun_le (g := oz_ga a i) (k := 1) L w.1
  -- the text
  obtain ⟨T, len, hT1, hT2, hT3, hT4, hT5⟩ : ∃ T len, len ≤ 400 ∧ (∀ j, j < len → T j ≤ 255 ∧ a (366 + j) = T j) ∧ (oz_lrA T len).2.isRight = true ∧ (oz_lrA T len).1 = L ∧ (if (1 : Int32) ≤ nI (a 1) then nI (a 2) else nI 0) = nI len := by
    rcases W with ⟨h1, h2, h3⟩ | ⟨h1, h2, h3, h4, h5, h6⟩
    · refine ⟨fun _ => 0, 0, by omega, fun j hj => absurd hj (by omega), rfl, ?_, ?_⟩
      · rw [h2]; rfl
      · rw [h1, if_neg (by decide +kernel)]
    · by_cases c : 1 ≤ a 1
      · refine ⟨oz_ttx a, a 2, h2, fun j hj => ?_, h4, h5, ?_⟩
        · have e : oz_ttx a j = a (366 + j) := if_pos hj
          rw [e]
          exact ⟨h3 j hj, rfl⟩
        · have h12 := h6.2.1
          rw [if_pos (by rw [pl_1, oz_le (by omega) (by omega)]; exact c)]
      · have c0 : a 1 = 0 := by omega
        have eL : L = [] := by
          have : L.length = 0 := by omega
          exact List.length_eq_zero_iff.mp this
        refine ⟨fun _ => 0, 0, by omega, fun j hj => absurd hj (by omega), rfl, by rw [eL]; rfl, ?_⟩
        rw [c0, if_neg (by decide +kernel)]
  obtain ⟨z0, hz0⟩ : ∃ z, z = lf_w (lf_w (lf_w s 389 15 (nI (oz_bed a i 1))) 389 16 (nI 5)) 395 0 (nI i) := ⟨_, rfl⟩
  obtain ⟨z1, hz1⟩ : ∃ z, z = lf_w (lf_w (lf_w (lf_w (lf_w (lf_w z0 395 1 (nI (oz_bed a i 0))) 395 2 (nI (oz_bed a i 1))) 395 3 (nI (oz_bed a i 2))) 395 4 (nI (oz_bed a i 3))) 395 5 (nI (a 8))) 395 6 (nI (a 9 % 100)) := ⟨_, rfl⟩
  obtain ⟨z2, hz2⟩ : ∃ z, z = lf_w (lf_w (lf_w (lf_w (lf_w z1 389 12 oz_N) 389 9 (nI 366)) 389 10 (nI len)) 389 11 (nI 0)) 389 13 (nI 0) := ⟨_, rfl⟩
  have f0 : oz_fr (fun p => p = 389 ∨ p = 395) s z0 := by
    rw [hz0]
    exact oz_fr_tr (oz_fr_w (by omega)) (oz_fr_tr (oz_fr_w (by omega)) (oz_fr_w (by omega)))
  have f1 : oz_fr (fun p => p = 395) z0 z1 := by
    rw [hz1]
    exact oz_fr_tr (oz_fr_w rfl) (oz_fr_tr (oz_fr_w rfl) (oz_fr_tr (oz_fr_w rfl) (oz_fr_tr (oz_fr_w rfl) (oz_fr_tr (oz_fr_w rfl) (oz_fr_w rfl)))))
  have f2 : oz_fr (fun p => p = 389) z1 z2 := by
    rw [hz2]
    exact oz_fr_tr (oz_fr_w rfl) (oz_fr_tr (oz_fr_w rfl) (oz_fr_tr (oz_fr_w rfl) (oz_fr_tr (oz_fr_w rfl) (oz_fr_w rfl))))
  have f02 : oz_fr (fun p => p = 389 ∨ p = 395) s z2 := oz_fr_tr f0 (oz_fr_tr (oz_fr_mono f1 (by omega)) (oz_fr_mono f2 (by omega)))
  have g0 : ∀ j, j ≠ 15 → j ≠ 16 → z1.1 389 j = s.1 389 j := fun j h1 h2 => by
    rw [f1.1 389 (by omega), hz0, oz_w_o (by omega), oz_w_n h2, oz_w_n h1]
  have g2 : ∀ j, j < 9 → z2.1 389 j = s.1 389 j := fun j hj => by
    rw [hz2, oz_w_n (by omega), oz_w_n (by omega), oz_w_n (by omega), oz_w_n (by omega), oz_w_n (by omega)]
    exact g0 j (by omega) (by omega)
  have X : oz_MX (oz_md z2 a) T len (Sum.inr (oz_sb T len 0)) := by
    refine ⟨?_, hT1, fun j hj => (hT2 j hj).1, Or.inr ⟨?_, fun j hj => ?_⟩, ?_⟩
    · rw [oz_md_o (by omega), hz2, oz_w_n (by omega), oz_w_n (by omega), oz_w_s]
    · rw [oz_md_o (by omega), hz2, oz_w_n (by omega), oz_w_n (by omega), oz_w_n (by omega), oz_w_s]
    · rw [oz_md_r, (hT2 j hj).2]
    · show (oz_md z2 a).1 389 12 = oz_N ∧ ∃ m, m ≤ len ∧ (oz_md z2 a).1 389 11 = nI m ∧ oz_sb T len m = oz_sb T len 0
      refine ⟨?_, 0, Nat.zero_le _, ?_, rfl⟩
      · rw [oz_md_o (by omega), hz2, oz_w_n (by omega), oz_w_n (by omega), oz_w_n (by omega), oz_w_n (by omega), oz_w_s]
      · rw [oz_md_o (by omega), hz2, oz_w_n (by omega), oz_w_s]
  have h13 : (oz_md z2 a).1 389 13 = nI 0 := by rw [oz_md_o (by omega), hz2, oz_w_s]
  obtain ⟨m, u, r1, r2, r3, r4⟩ := m_lawRead X h13
  obtain ⟨r5, r6⟩ := r4 hT3
  obtain ⟨u', rfl⟩ : ∃ z, u = oz_md z a := ⟨u, oz_fe_md r3⟩
  have u15 : (oz_md z2 a).1 389 15 = nI (oz_bed a i 1) := by
    rw [oz_md_o (by omega), hz2, oz_w_n (by omega), oz_w_n (by omega), oz_w_n (by omega), oz_w_n (by omega), oz_w_n (by omega), f1.1 389 (by omega), hz0, oz_w_o (by omega), oz_w_n (by omega), oz_w_s]
  have u16 : (oz_md z2 a).1 389 16 = nI 5 := by
    rw [oz_md_o (by omega), hz2, oz_w_n (by omega), oz_w_n (by omega), oz_w_n (by omega), oz_w_n (by omega), oz_w_n (by omega), f1.1 389 (by omega), hz0, oz_w_o (by omega), oz_w_s]
  have c395 : (oz_md z2 a).1 395 = z1.1 395 := by rw [oz_md_o (by omega), f2.1 395 (by omega)]
  have d0 : z1.1 395 0 = nI i := by
    rw [hz1, oz_w_n (by omega), oz_w_n (by omega), oz_w_n (by omega), oz_w_n (by omega), oz_w_n (by omega), oz_w_n (by omega), hz0, oz_w_s]
  have d1 : z1.1 395 1 = nI (oz_bed a i 0) := by
    rw [hz1, oz_w_n (by omega), oz_w_n (by omega), oz_w_n (by omega), oz_w_n (by omega), oz_w_n (by omega), oz_w_s]
  have d2 : z1.1 395 2 = nI (oz_bed a i 1) := by
    rw [hz1, oz_w_n (by omega), oz_w_n (by omega), oz_w_n (by omega), oz_w_n (by omega), oz_w_s]
  have d3 : z1.1 395 3 = nI (oz_bed a i 2) := by
    rw [hz1, oz_w_n (by omega), oz_w_n (by omega), oz_w_n (by omega), oz_w_s]
  have d4 : z1.1 395 4 = nI (oz_bed a i 3) := by
    rw [hz1, oz_w_n (by omega), oz_w_n (by omega), oz_w_s]
  have d5 : z1.1 395 5 = nI (a 8) := by
    rw [hz1, oz_w_n (by omega), oz_w_s]
  have d6 : z1.1 395 6 = nI (a 9 % 100) := by
    rw [hz1, oz_w_s]
  have eg : ∀ x, x < 1010 → oz_gm (oz_md z2 a) x = oz_ga a i x := by
    intro x hx
    unfold oz_gm oz_ga
    rw [c395, d2, d3]
    by_cases c : x < 1000
    · rw [if_pos c, if_pos c]
    rw [if_neg c, if_neg c]
    by_cases c7 : x = 1007
    · subst c7
      show (if (oz_md z2 a).1 390 10 = 1 then (1 : Int32) else 0) = (if a 10 = 1 then 1 else 0)
      rw [oz_md_r]
      by_cases ca : a 10 = 1
      · rw [if_pos ca, if_pos (by rw [ca]; rfl)]
      · rw [if_neg ca, if_neg (by rw [pl_1, oz_eq (by omega) (by omega)]; exact ca)]
    by_cases c8 : x = 1008
    · subst c8
      show (if nI (oz_bed a i 1) < 2 then (0 : Int32) else 1) = (if oz_bed a i 1 < 2 then 0 else 1)
      by_cases ca : oz_bed a i 1 < 2
      · rw [if_pos ca, if_pos (by rw [pl_2, oz_lt (by omega) (by omega)]; exact ca)]
      · rw [if_neg ca, if_neg (by rw [pl_2, oz_lt (by omega) (by omega)]; exact ca)]
    by_cases c9 : x = 1009
    · subst c9
      show (if nI (oz_bed a i 2) ≤ 50 then (0 : Int32) else 1) = (if oz_bed a i 2 ≤ 50 then 0 else 1)
      by_cases ca : oz_bed a i 2 ≤ 50
      · rw [if_pos ca, if_pos (by rw [pl_50, oz_le (by omega) (by omega)]; exact ca)]
      · rw [if_neg ca, if_neg (by rw [pl_50, oz_le (by omega) (by omega)]; exact ca)]
    rw [if_neg c7, if_neg c8, if_neg c9]
    obtain ⟨k, rfl⟩ : ∃ k, x = 1000 + k := ⟨x - 1000, by omega⟩
    rw [show 1000 + k - 1000 = k by omega]
    have hk : k < 7 := by omega
    match k, hk with
    | 0, _ => exact d0
    | 1, _ => exact d1
    | 2, _ => exact d2
    | 3, _ => exact d3
    | 4, _ => exact d4
    | 5, _ => exact d5
    | 6, _ => exact d6
  have z0e : nI (oz_bed a i 1) = nI (oz_bed a i 1) - nI 0 := by rw [oz_sub (Nat.zero_le _), Nat.sub_zero]
  rw [u15, u16, hT4, z0e, oz_fo_sun L _ 0 5 w.1, oz_sun_cg eg, oz_sun_cg eg, oz_sun_cg eg, Nat.zero_add] at r6
  have r15 : (oz_md u' a).1 389 15 = nI (oz_bed a i 1 + oz_sun (oz_ga a i) 0 L) - nI (oz_sun (oz_ga a i) 1 L) := congrArg Prod.fst r6
  have r16 : (oz_md u' a).1 389 16 = nI (5 + oz_sun (oz_ga a i) 2 L) := congrArg Prod.snd r6
  have mw : ∀ (x : lf_S) p k v, p ≠ 390 → lf_w (oz_md x a) p k v = oz_md (lf_w x p k v) a := fun x p k v hp => oz_md_wo hp
  have cl := m_clamp (x := oz_bed a i 1 + oz_sun (oz_ga a i) 0 L) (y := oz_sun (oz_ga a i) 1 L) (by omega) (by omega)
  obtain ⟨le, hle⟩ : ∃ le, f_Mod_lesser (nI 6) (nI (oz_bed a i 1 + oz_sun (oz_ga a i) 0 L) - nI (oz_sun (oz_ga a i) 1 L)) = some le := by
    cases h : f_Mod_lesser (nI 6) (nI (oz_bed a i 1 + oz_sun (oz_ga a i) 0 L) - nI (oz_sun (oz_ga a i) 1 L)) with
    | none => rw [h] at cl; exact nomatch cl
    | some le => exact ⟨le, rfl⟩
  rw [hle, Option.bind_some] at cl
  -- what the reading leaves, with the row of s
  obtain ⟨t, t1, t2, t3, t4⟩ := oz_md_pick s (lf_w (lf_w u' 389 12 (s.1 389 12)) 389 15 (nI (oz_rc a L i))) a
  have fe : ∀ p, p ≠ 389 → p ≠ 390 → u'.1 p = z2.1 p := fun p h1 h2 => by
    have := r3.1.1 p h1
    rwa [oz_md_o h2, oz_md_o h2] at this
  have fej : ∀ j, j < 9 → u'.1 389 j = z2.1 389 j := fun j hj => by
    have := r3.2 j (by omega) (by omega) (by omega) (by omega)
    rwa [oz_md_o (by omega), oz_md_o (by omega)] at this
  refine ⟨t, ?_, ?_, ?_, ?_, ⟨fun p hp => ?_, ?_⟩, fun j hj => ?_⟩
  · rw [← t1]
    have final : ∀ w : lf_S, w = oz_md z2 a → (f_Mod_read (1 : Int32) w).bind (fun p26 => lf_lt p26.1 (fun y27 => lf_lt (lf_w p26.2 389 12 (s.1 389 12)) (fun s28 => (f_Mod_lesser (6 : Int32) (s28.1 389 15)).bind (fun p29 => (f_Mod_greater (0 : Int32) p29).bind (fun p30 => lf_lt (lf_w s28 389 15 p30) (fun s31 => some s31)))))) = some (oz_md (lf_w (lf_w u' 389 12 (s.1 389 12)) 389 15 (nI (oz_rc a L i))) a) := by
      intro w hw
      rw [hw, r1, Option.bind_some]
      simp only [lf_lt]
      rw [mw _ _ _ _ (by omega), oz_md_o (by omega), oz_w_n (by omega)]
      have r15' : u'.1 389 15 = nI (oz_bed a i 1 + oz_sun (oz_ga a i) 0 L) - nI (oz_sun (oz_ga a i) 1 L) := by
        rw [oz_md_o (by omega)] at r15
        exact r15
      rw [r15', pl_6, hle, Option.bind_some, pl_0, cl, Option.bind_some, mw _ _ _ _ (by omega)]
      rfl
    unfold f_Mod_asks
    rw [pl_1, m_ofBed (by omega) (by omega), Option.bind_some]
    simp only [lf_lt]
    rw [mw _ _ _ _ (by omega), pl_5, mw _ _ _ _ (by omega), pl_0, oz_ck (by omega) (by omega), mw _ _ _ _ (by omega), ← hz0, show (5000 : Nat) = 4996 + 1 + 1 + 1 + 1 from rfl, m_asks24 (by omega) (by omega), m_asks24 (by omega) (by omega), m_asks24 (by omega) (by omega), m_asks24 (by omega) (by omega), f_Mod_asks_24, pl_4, oz_ile_t (by omega) (by omega), Option.bind_some, pl_8, oz_ck (by omega) (by omega), oz_ck (by omega) (by omega), oz_md_r, mw _ _ _ _ (by omega), pl_9, oz_ck (by omega) (by omega), pl_6, oz_ck (by omega) (by omega), oz_md_r, pl_100, oz_mod (by omega) (by omega) (by omega), mw _ _ _ _ (by omega), ← hz1, oz_md_o (by omega), g0 12 (by omega) (by omega), show (-nI 1 : Int32) = oz_N from oz_neg1, mw _ _ _ _ (by omega), pl_366, mw _ _ _ _ (by omega), oz_ck (by omega) (by omega), oz_md_r]
    by_cases c : nI 1 ≤ nI (a 1)
    · rw [if_pos c]
      rw [if_pos (show (1 : Int32) ≤ nI (a 1) from c)] at hT5
      rw [pl_2, oz_ck (by omega) (by omega), oz_md_r, hT5, mw _ _ _ _ (by omega), mw _ _ _ _ (by omega), mw _ _ _ _ (by omega), ← hz2]
      exact final _ rfl
    · rw [if_neg c]
      rw [if_neg (show ¬ ((1 : Int32) ≤ nI (a 1)) from c)] at hT5
      have l0 : len = 0 := (oz_inj (by omega) (by omega) hT5).symm
      rw [l0] at hz2
      rw [mw _ _ _ _ (by omega), mw _ _ _ _ (by omega), mw _ _ _ _ (by omega), ← hz2]
      exact final _ rfl
  · rw [t3 389 (by omega), oz_w_s]
  · rw [t3 389 (by omega), oz_w_n (by omega), oz_w_n (by omega)]
    rw [oz_md_o (by omega)] at r16
    exact r16
  · rw [t3 389 (by omega), oz_w_n (by omega), oz_w_s]
  · by_cases c : p = 390
    · rw [c]; exact t2
    · rw [t3 p c, oz_w_o (by omega), oz_w_o (by omega), fe p (by omega) c, f02.1 p hp]
  · rw [t4]
    show u'.2 = s.2
    have := r3.1.2
    have e : u'.2 = z2.2 := this
    rw [e, f02.2]
  · rw [t3 389 (by omega), oz_w_n (by omega), oz_w_n (by omega), fej j hj, g2 j hj]
end
