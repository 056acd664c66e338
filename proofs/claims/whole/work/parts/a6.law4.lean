/-! ===== the law's text, the model's conditions and lines ===== -/
theorem oz_bi_i (b : Bool) : lf_i b = oz_bi b := rfl
theorem oz_bi_and (a b : Bool) : oz_jv 1014 (oz_bi a) (oz_bi b) = oz_bi (a && b) := by cases a <;> cases b <;> decide +kernel
theorem oz_bi_or (a b : Bool) : oz_jv 1015 (oz_bi a) (oz_bi b) = oz_bi (a || b) := by cases a <;> cases b <;> decide +kernel
theorem oz_bi_not (a : Bool) : 1 - oz_bi a = oz_bi (!a) := by cases a <;> decide +kernel
theorem oz_bi_0 (b : Bool) : (lf_i b = 0) = (b = false) := by cases b <;> simp [lf_i]
def oz_MP (T : Nat → Nat) (len r B : Nat) (f : lf_S → Option (Bool × lf_S)) (A : (Nat ⊕ Nat) → List Nat × (Nat ⊕ Nat)) : Prop := ∀ s p, oz_MX s T len (Sum.inr p) → s.1 389 13 = nI (6 - r) → oz_QR T len r B s (f s) (A (Sum.inr p))
section
variable {s : lf_S} {T : Nat → Nat} {len : Nat}
theorem m_every5 {q1 q2 q3 : lf_S → Option (Bool × lf_S)} {A : (Nat ⊕ Nat) → List Nat × (Nat ⊕ Nat)} {r B : Nat} (hA : oz_MP T len r (B + 1) q3 A) (hn : ∀ st, oz_lkp len st → oz_ln len st (A st)) : ∀ k (s : lf_S) (b : Bool) c st fuel, oz_MY s T len r st → s.1 389 13 = nI (6 - r) → oz_mu len st < k → k < fuel → (st.isRight = true → oz_one (oz_gm s) B c (oz_bi b)) → ∃ b' u, f_Mod_every_5 q1 q2 q3 fuel (lf_i b) s = some (lf_i b', u) ∧ oz_MY u T len r (oz_jnL T len 59 1014 A k st).2 ∧ oz_fm s u ∧ ((oz_jnL T len 59 1014 A k st).2.isRight = true → oz_one (oz_gm s) B (c ++ (oz_jnL T len 59 1014 A k st).1) (oz_bi b')) := by
  intro k
  induction k with
  | zero => intro s b c st fuel X h13 h; omega
  | succ k ih =>
    intro s b c st fuel X h13 h2 hf hv
    obtain ⟨fuel, rfl⟩ : ∃ m, fuel = m + 1 := ⟨fuel - 1, by omega⟩
    rw [f_Mod_every_5, show (-1 : Int32) = oz_N from rfl]
    cases st with
    | inl q =>
      rw [if_neg (oz_atY X), oz_jnL_l]
      exact ⟨b, s, rfl, X, oz_fm_rf, fun h => Bool.noConfusion h⟩
    | inr p =>
      have X0 := oz_MY_r X
      rw [if_pos (oz_at X0)]
      unfold oz_jnL
      have w := m_fact X0 (t := 26) (c := 59) (k := 0) (by decide +kernel) (by decide +kernel) (by decide +kernel)
      by_cases cg : oz_isW T len 59 (Sum.inr p) = true
      · obtain ⟨u1, k1, k2, k3⟩ := w.1 cg
        rw [oz_tkt k1, if_pos cg]
        have et := oz_toW_t (show oz_wd T len 59 p = true from cg)
        have mu1 := oz_mu_W cg (by decide +kernel)
        have mu3 : 1 ≤ (mj_tx 59).length := by decide +kernel
        have mu2 := (hn _ (oz_lk_W cg)).1
        rw [et] at k2 mu1 mu2
        rw [et]
        obtain ⟨e, u2, l1, l2, l3, l4⟩ := hA u1 _ k2 (by rw [k3.2 13 (by omega) (by omega)]; exact h13)
        have f2 := oz_fm_tr k3 l3
        have stp : ∀ (b e : Bool) (u : lf_S), (if lf_i b = 0 then lf_lt (0 : Int32) (fun y6 => f_Mod_every_5 q1 q2 q3 fuel y6 u) else (if e = true then lf_lt (1 : Int32) (fun y8 => f_Mod_every_5 q1 q2 q3 fuel y8 u) else lf_lt (0 : Int32) (fun y7 => f_Mod_every_5 q1 q2 q3 fuel y7 u))) = f_Mod_every_5 q1 q2 q3 fuel (lf_i (b && e)) u := by
          intro b e u
          cases b <;> cases e <;> rfl
        have one : (A (Sum.inr (oz_sb T len (p + (mj_tx 59).length)))).2.isRight = true → oz_one (oz_gm u2) B (c ++ ((A (Sum.inr (oz_sb T len (p + (mj_tx 59).length)))).1 ++ [1014])) (oz_bi (b && e)) := by
          intro hr
          rw [oz_gm_fm f2, ← oz_bi_and]
          have l4' := l4 hr
          rw [oz_gm_fm k3] at l4'
          exact oz_one_2 (by omega) (hv rfl) l4'
        obtain ⟨b', u, j1, j2, j3, j4⟩ := ih u2 (b && e) _ _ fuel l2 (by rw [f2.2 13 (by omega) (by omega)]; exact h13) (by omega) (by omega) one
        refine ⟨b', u, ?_, j2, oz_fm_tr f2 j3, fun hr => ?_⟩
        · try dsimp only
          rw [l1, Option.bind_some]
          exact (stp b e u2).trans j1
        · have := j4 hr
          rw [oz_gm_fm f2] at this
          have e2 : c ++ ((A (Sum.inr (oz_sb T len (p + (mj_tx 59).length)))).1 ++ [1014]) ++ (oz_jnL T len 59 1014 A k (A (Sum.inr (oz_sb T len (p + (mj_tx 59).length)))).2).1 = c ++ ((A (Sum.inr (oz_sb T len (p + (mj_tx 59).length)))).1 ++ (1014 :: (oz_jnL T len 59 1014 A k (A (Sum.inr (oz_sb T len (p + (mj_tx 59).length)))).2).1)) := by
            rw [List.append_assoc, List.append_assoc]; rfl
          rw [e2] at this
          exact this
      · obtain ⟨u1, k1, k2, k3, k4⟩ := w.2 (by cases h : oz_wd T len 59 p with
          | false => rfl
          | true => exact absurd h cg)
        rw [oz_tkf k1, if_neg cg]
        exact ⟨b, u1, rfl, oz_MY_of k2, k3, fun _ => by show oz_one (oz_gm s) B (c ++ []) (oz_bi b); rw [List.append_nil]; exact hv rfl⟩
theorem m_every {q1 q2 q3 : lf_S → Option (Bool × lf_S)} {A : (Nat ⊕ Nat) → List Nat × (Nat ⊕ Nat)} {r B : Nat} (hA : oz_MP T len r (B + 1) q3 A) (hn : ∀ st, oz_lkp len st → oz_ln len st (A st)) : oz_MP T len r B (fb_Mod_every q1 q2 q3) (oz_jn T len 59 1014 A) := by
  intro s p X h13
  obtain ⟨e, u1, l1, l2, l3, l4⟩ := hA s p X h13
  have mu := oz_mu_le (st := (A (Sum.inr p)).2) X.2.1
  obtain ⟨b', u, j1, j2, j3, j4⟩ := m_every5 (q1 := q1) (q2 := q2) (q3 := q3) hA hn 401 u1 e (A (Sum.inr p)).1 _ 5000 l2 (by rw [l3.2 13 (by omega) (by omega)]; exact h13) (by omega) (by omega) (fun hr => by
    rw [oz_gm_fm l3]
    exact oz_one_le (l4 hr) (by omega))
  refine ⟨b', u, ?_, j2, oz_fm_tr l3 j3, fun hr => ?_⟩
  · unfold fb_Mod_every
    rw [l1, Option.bind_some]
    simp only [lf_lt]
    rw [j1, Option.bind_some, oz_rbi, Option.bind_some]
  · have := j4 hr
    rw [oz_gm_fm l3] at this
    exact this
theorem m_some5 {q1 q2 q3 : lf_S → Option (Bool × lf_S)} {A : (Nat ⊕ Nat) → List Nat × (Nat ⊕ Nat)} {r B : Nat} (hA : oz_MP T len r (B + 1) q2 A) (hn : ∀ st, oz_lkp len st → oz_ln len st (A st)) : ∀ k (s : lf_S) (b : Bool) c st fuel, oz_MY s T len r st → s.1 389 13 = nI (6 - r) → oz_mu len st < k → k < fuel → (st.isRight = true → oz_one (oz_gm s) B c (oz_bi b)) → ∃ b' u, f_Mod_some_5 q1 q2 q3 fuel (lf_i b) s = some (lf_i b', u) ∧ oz_MY u T len r (oz_jnL T len 58 1015 A k st).2 ∧ oz_fm s u ∧ ((oz_jnL T len 58 1015 A k st).2.isRight = true → oz_one (oz_gm s) B (c ++ (oz_jnL T len 58 1015 A k st).1) (oz_bi b')) := by
  intro k
  induction k with
  | zero => intro s b c st fuel X h13 h; omega
  | succ k ih =>
    intro s b c st fuel X h13 h2 hf hv
    obtain ⟨fuel, rfl⟩ : ∃ m, fuel = m + 1 := ⟨fuel - 1, by omega⟩
    rw [f_Mod_some_5, show (-1 : Int32) = oz_N from rfl]
    cases st with
    | inl q =>
      rw [if_neg (oz_atY X), oz_jnL_l]
      exact ⟨b, s, rfl, X, oz_fm_rf, fun h => Bool.noConfusion h⟩
    | inr p =>
      have X0 := oz_MY_r X
      rw [if_pos (oz_at X0)]
      unfold oz_jnL
      have w := m_fact X0 (t := 27) (c := 58) (k := 0) (by decide +kernel) (by decide +kernel) (by decide +kernel)
      by_cases cg : oz_isW T len 58 (Sum.inr p) = true
      · obtain ⟨u1, k1, k2, k3⟩ := w.1 cg
        rw [oz_tkt k1, if_pos cg]
        have et := oz_toW_t (show oz_wd T len 58 p = true from cg)
        have mu1 := oz_mu_W cg (by decide +kernel)
        have mu3 : 1 ≤ (mj_tx 58).length := by decide +kernel
        have mu2 := (hn _ (oz_lk_W cg)).1
        rw [et] at k2 mu1 mu2
        rw [et]
        obtain ⟨e, u2, l1, l2, l3, l4⟩ := hA u1 _ k2 (by rw [k3.2 13 (by omega) (by omega)]; exact h13)
        have f2 := oz_fm_tr k3 l3
        have stp : ∀ (b e : Bool) (u : lf_S), (if lf_i b = 0 then (if e = true then lf_lt (1 : Int32) (fun y8 => f_Mod_some_5 q1 q2 q3 fuel y8 u) else lf_lt (0 : Int32) (fun y7 => f_Mod_some_5 q1 q2 q3 fuel y7 u)) else lf_lt (1 : Int32) (fun y6 => f_Mod_some_5 q1 q2 q3 fuel y6 u)) = f_Mod_some_5 q1 q2 q3 fuel (lf_i (b || e)) u := by
          intro b e u
          cases b <;> cases e <;> rfl
        have one : (A (Sum.inr (oz_sb T len (p + (mj_tx 58).length)))).2.isRight = true → oz_one (oz_gm u2) B (c ++ ((A (Sum.inr (oz_sb T len (p + (mj_tx 58).length)))).1 ++ [1015])) (oz_bi (b || e)) := by
          intro hr
          rw [oz_gm_fm f2, ← oz_bi_or]
          have l4' := l4 hr
          rw [oz_gm_fm k3] at l4'
          exact oz_one_2 (by omega) (hv rfl) l4'
        obtain ⟨b', u, j1, j2, j3, j4⟩ := ih u2 (b || e) _ _ fuel l2 (by rw [f2.2 13 (by omega) (by omega)]; exact h13) (by omega) (by omega) one
        refine ⟨b', u, ?_, j2, oz_fm_tr f2 j3, fun hr => ?_⟩
        · try dsimp only
          rw [l1, Option.bind_some]
          exact (stp b e u2).trans j1
        · have := j4 hr
          rw [oz_gm_fm f2] at this
          have e2 : c ++ ((A (Sum.inr (oz_sb T len (p + (mj_tx 58).length)))).1 ++ [1015]) ++ (oz_jnL T len 58 1015 A k (A (Sum.inr (oz_sb T len (p + (mj_tx 58).length)))).2).1 = c ++ ((A (Sum.inr (oz_sb T len (p + (mj_tx 58).length)))).1 ++ (1015 :: (oz_jnL T len 58 1015 A k (A (Sum.inr (oz_sb T len (p + (mj_tx 58).length)))).2).1)) := by
            rw [List.append_assoc, List.append_assoc]; rfl
          rw [e2] at this
          exact this
      · obtain ⟨u1, k1, k2, k3, k4⟩ := w.2 (by cases h : oz_wd T len 58 p with
          | false => rfl
          | true => exact absurd h cg)
        rw [oz_tkf k1, if_neg cg]
        exact ⟨b, u1, rfl, oz_MY_of k2, k3, fun _ => by show oz_one (oz_gm s) B (c ++ []) (oz_bi b); rw [List.append_nil]; exact hv rfl⟩
theorem m_some {q1 q2 q3 : lf_S → Option (Bool × lf_S)} {A : (Nat ⊕ Nat) → List Nat × (Nat ⊕ Nat)} {r B : Nat} (hA : oz_MP T len r (B + 1) q2 A) (hn : ∀ st, oz_lkp len st → oz_ln len st (A st)) : oz_MP T len r B (fb_Mod_some q1 q2 q3) (oz_jn T len 58 1015 A) := by
  intro s p X h13
  obtain ⟨e, u1, l1, l2, l3, l4⟩ := hA s p X h13
  have mu := oz_mu_le (st := (A (Sum.inr p)).2) X.2.1
  obtain ⟨b', u, j1, j2, j3, j4⟩ := m_some5 (q1 := q1) (q2 := q2) (q3 := q3) hA hn 401 u1 e (A (Sum.inr p)).1 _ 5000 l2 (by rw [l3.2 13 (by omega) (by omega)]; exact h13) (by omega) (by omega) (fun hr => by
    rw [oz_gm_fm l3]
    exact oz_one_le (l4 hr) (by omega))
  refine ⟨b', u, ?_, j2, oz_fm_tr l3 j3, fun hr => ?_⟩
  · unfold fb_Mod_some
    rw [l1, Option.bind_some]
    simp only [lf_lt]
    rw [j1, Option.bind_some, oz_rbi, Option.bind_some]
  · have := j4 hr
    rw [oz_gm_fm l3] at this
    exact this
theorem oz_wd_97 {t p : Nat} (hT : ∀ i, i < len → T i ≤ 255) (hl : oz_txl t = true) (h0 : 0 < (mj_tx t).length) (h : oz_wd T len t p = true) : p < len ∧ 97 ≤ T p ∧ T p ≤ 122 := by
  unfold oz_wd at h
  rw [Bool.and_eq_true, Bool.and_eq_true, oz_ok_t] at h
  have hp := of_decide_eq_true h.1
  have a := of_decide_eq_true (h.2.1 0 h0)
  have b : (97 : Int32) ≤ (mj_tx t).getD 0 0 ∧ (mj_tx t).getD 0 0 ≤ 122 := by
    unfold oz_txl at hl
    rw [List.all_eq_true] at hl
    have hm : (mj_tx t).getD 0 0 ∈ mj_tx t := by
      rw [List.getD_eq_getElem?_getD, List.getElem?_eq_getElem h0]
      exact List.getElem_mem h0
    exact of_decide_eq_true (hl _ hm)
  have hb := hT p (by omega)
  rw [← a, Nat.add_zero, pl_97, pl_122, oz_le (by omega) (by omega), oz_le (by omega) (by omega)] at b
  exact ⟨by omega, b.1, b.2⟩
/-- what can't stand there is a fault there -/
theorem oz_pln_x {p : Nat} (h61 : oz_wd T len 61 p = false) (h62 : oz_wd T len 62 p = false) (h63 : oz_wd T len 63 p = false) (h64 : oz_wd T len 64 p = false) (h65 : oz_wd T len 65 p = false) (h66 : oz_wd T len 66 p = false) (h67 : oz_wd T len 67 p = false) (h68 : oz_wd T len 68 p = false) (h69 : oz_wd T len 69 p = false) (h70 : oz_wd T len 70 p = false) (hd : p < len → oz_dg T p = false) : (oz_pln T len (Sum.inr p)).2 = Sum.inl p := by
  have e0 : oz_nm1 T len 0 (nI 999) p = false := by
    unfold oz_nm1
    refine decide_eq_false (fun z => z.1 ?_)
    show (if p < len ∧ oz_dg T p = true then _ else (p, 0) : Nat × Nat).1 = p
    by_cases c : p < len
    · rw [hd c, if_neg (fun z => Bool.noConfusion z.2)]
    · rw [if_neg (fun z => c z.1)]
  have e1 : oz_nmS T len 0 (nI 999) (Sum.inr p) = Sum.inl p := by
    show (if oz_nm1 T len 0 (nI 999) p = true then _ else Sum.inl p) = Sum.inl p
    rw [e0, if_neg Bool.noConfusion]
  have w : ∀ t, oz_isW T len t (Sum.inr p) = oz_wd T len t p := fun _ => rfl
  have e2 : (oz_prt T len (Sum.inr p)).2 = Sum.inl p := by
    unfold oz_prt
    rw [w, w, w, w, w, w, w, h64, h65, h66, h67, h68, h69, h70, e1]
    simp only [Bool.false_eq_true, if_false]
  have e3 : (oz_smP T len (Sum.inr p)).2 = Sum.inl p := by
    unfold oz_smP
    rw [e2, oz_smL_l]
  have e4 : (oz_cmp T len (Sum.inr p)).2 = Sum.inl p := by
    have g : ∀ c, oz_isG T len c (Sum.inl p) = false := fun _ => rfl
    unfold oz_cmp
    rw [e3, g, g, if_neg Bool.noConfusion, if_neg Bool.noConfusion]
    rfl
  unfold oz_pln
  rw [w, w, w, h61, h62, h63, if_neg Bool.noConfusion, if_neg Bool.noConfusion, if_neg Bool.noConfusion]
  exact e4
theorem m_atom0 {q1 q2 q3 : lf_S → Option (Bool × lf_S)} : oz_MP T len 0 21 (fb_Mod_atom q1 q2 q3) (oz_atm T len 0) := by
  intro s p X h13
  have hT := X.2.2.1
  have hp := oz_MX_p X
  have l400 := X.2.1
  have ex : ∀ t u, oz_txl t = true → oz_txl u = true → mj_tx t ≠ mj_tx u → oz_wd T len t p = true → oz_wd T len u p = false := fun t u ht hu hne h => by
    cases hz : oz_wd T len u p with
    | false => rfl
    | true => exact absurd (oz_wd_ex hT ht hu hp h hz) hne
  obtain ⟨t, k1, k2, k3, k4⟩ := m_here X
  have hy := (k4 p rfl).1
  have h13' : t.1 389 13 = nI 6 := by rw [k3.2 13 (by omega) (by omega)]; exact h13
  unfold fb_Mod_atom
  rw [show (-1 : Int32) = oz_N from rfl, if_pos (oz_at X), k1, Option.bind_some, hy]
  simp only [lf_lt]
  show oz_QR T len 0 21 s _ (oz_pln T len (Sum.inr p))
  have w := m_fact k2 (t := 25) (c := 60) (k := 0) (by decide +kernel) (by decide +kernel) (by decide +kernel)
  by_cases c : oz_wd T len 60 p = true
  · obtain ⟨u1, a1, a2, a3⟩ := w.1 c
    have f1 := oz_fm_tr k3 a3
    have l := oz_wd_97 hT (by decide +kernel) (by decide +kernel) c
    have e := oz_pln_x (T := T) (len := len) (ex 60 61 (by decide +kernel) (by decide +kernel) (by decide +kernel) c) (ex 60 62 (by decide +kernel) (by decide +kernel) (by decide +kernel) c) (ex 60 63 (by decide +kernel) (by decide +kernel) (by decide +kernel) c) (ex 60 64 (by decide +kernel) (by decide +kernel) (by decide +kernel) c) (ex 60 65 (by decide +kernel) (by decide +kernel) (by decide +kernel) c) (ex 60 66 (by decide +kernel) (by decide +kernel) (by decide +kernel) c) (ex 60 67 (by decide +kernel) (by decide +kernel) (by decide +kernel) c) (ex 60 68 (by decide +kernel) (by decide +kernel) (by decide +kernel) c) (ex 60 69 (by decide +kernel) (by decide +kernel) (by decide +kernel) c) (ex 60 70 (by decide +kernel) (by decide +kernel) (by decide +kernel) c) (fun _ => decide_eq_false (by omega))
    rw [oz_toW_t c] at a2
    obtain ⟨u2, b1, b2, b3⟩ := m_wrongQ a2 (q := p) (by omega)
    rw [a1, Option.bind_some]
    simp only [if_true]
    rw [if_pos (by rw [a3.2 13 (by omega) (by omega), h13']; rfl), b1, Option.bind_some]
    exact ⟨false, u2, rfl, by rw [e]; exact oz_MY_of b2, oz_fm_tr f1 b3, fun h => by rw [e] at h; exact Bool.noConfusion h⟩
  · obtain ⟨u1, a1, a2, a3, a4⟩ := w.2 (by cases h : oz_wd T len 60 p with
      | false => rfl
      | true => exact absurd h c)
    have f1 := oz_fm_tr k3 a3
    rw [a1, Option.bind_some]
    simp only [Bool.false_eq_true, if_false]
    rw [pl_40]
    obtain ⟨u2, b1, b2, b3, b4⟩ := m_isSign a2 (c := 40) (by omega)
    have f2 := oz_fm_tr f1 b3
    by_cases c2 : oz_isG T len 40 (Sum.inr p) = true
    · have c2' : p < len ∧ T p = 40 := of_decide_eq_true c2
      have nw : ∀ t, oz_txl t = true → 0 < (mj_tx t).length → oz_wd T len t p = false := fun t h1 h2 => by
        cases hz : oz_wd T len t p with
        | false => rfl
        | true =>
          have := oz_wd_97 hT h1 h2 hz
          omega
      have e := oz_pln_x (T := T) (len := len) (p := p) (nw 61 (by decide +kernel) (by decide +kernel)) (nw 62 (by decide +kernel) (by decide +kernel)) (nw 63 (by decide +kernel) (by decide +kernel)) (nw 64 (by decide +kernel) (by decide +kernel)) (nw 65 (by decide +kernel) (by decide +kernel)) (nw 66 (by decide +kernel) (by decide +kernel)) (nw 67 (by decide +kernel) (by decide +kernel)) (nw 68 (by decide +kernel) (by decide +kernel)) (nw 69 (by decide +kernel) (by decide +kernel)) (nw 70 (by decide +kernel) (by decide +kernel)) (fun _ => decide_eq_false (by omega))
      rw [c2] at b1
      obtain ⟨u3, g1, g2, g3⟩ := m_wrongQ b2 (q := p) (by omega)
      rw [oz_tkt b1, if_pos (by show u2.1 389 13 = 6; rw [b3.2 13 (by omega) (by omega), a3.2 13 (by omega) (by omega), h13']; rfl), g1, Option.bind_some]
      exact ⟨false, u3, rfl, by rw [e]; exact oz_MY_of g2, oz_fm_tr f2 g3, fun h => by rw [e] at h; exact Bool.noConfusion h⟩
    · have e2 : oz_isG T len 40 (Sum.inr p) = false := by
        cases h : oz_isG T len 40 (Sum.inr p) with
        | false => rfl
        | true => exact absurd h c2
      rw [e2] at b1
      rw [oz_tkf b1]
      obtain ⟨v, u, j1, j2, j3, j4⟩ := m_plain b2
      try dsimp only
      rw [j1, Option.bind_some]
      exact oz_QR_tr f2 ⟨v, u, rfl, j2, j3, j4⟩
theorem m_atom1 {q1 q2 q3 : lf_S → Option (Bool × lf_S)} {r : Nat} (hr : r + 1 ≤ 6) (h3 : oz_MP T len r (21 - 2 * r) q3 (oz_atm T len r)) (h1 : oz_MP T len r (19 - 2 * r) q1 (oz_jn T len 58 1015 (oz_jn T len 59 1014 (oz_atm T len r)))) : oz_MP T len (r + 1) (21 - 2 * (r + 1)) (fb_Mod_atom q1 q2 q3) (oz_atm T len (r + 1)) := by
  intro s p X h13
  have hT := X.2.2.1
  have hp := oz_MX_p X
  have l400 := X.2.1
  obtain ⟨t, k1, k2, k3, k4⟩ := m_here X
  have hy := (k4 p rfl).1
  have h13' : t.1 389 13 = nI (6 - (r + 1)) := by rw [k3.2 13 (by omega) (by omega)]; exact h13
  have n6 : ¬ (nI (6 - (r + 1)) = (6 : Int32)) := by rw [pl_6, oz_eq (by omega) (by omega)]; omega
  unfold fb_Mod_atom
  rw [show (-1 : Int32) = oz_N from rfl, if_pos (oz_at X), k1, Option.bind_some, hy]
  simp only [lf_lt]
  show oz_QR T len (r + 1) (21 - 2 * (r + 1)) s _ (if oz_isW T len 60 (Sum.inr p) = true then _ else if oz_isG T len 40 (Sum.inr p) = true then _ else _)
  have w := m_fact k2 (t := 25) (c := 60) (k := 0) (by decide +kernel) (by decide +kernel) (by decide +kernel)
  -- the depth is put back
  have back : ∀ (x u : lf_S), oz_fm s x → x.1 389 13 = nI (6 - (r + 1)) → oz_fdd (lf_w x 389 13 (nI (6 - r))) u → u.1 389 13 = nI (6 - r) → oz_fm s (lf_w u 389 13 (u.1 389 13 - 1)) := by
    intro x u fx x13 fu u13
    refine oz_fm_tr fx (oz_fm_fd (oz_fd_tr (oz_fd_w (Or.inr (Or.inr rfl))) (oz_fd_tr fu (oz_fd_w (Or.inr (Or.inr rfl))))) ?_)
    rw [oz_w_s, u13, x13, pl_1, oz_sub (by omega), show 6 - r - 1 = 6 - (r + 1) by omega]
  by_cases c : oz_isW T len 60 (Sum.inr p) = true
  · obtain ⟨u1, a1, a2, a3⟩ := w.1 c
    have f1 := oz_fm_tr k3 a3
    have u13 : u1.1 389 13 = nI (6 - (r + 1)) := by rw [a3.2 13 (by omega) (by omega)]; exact h13'
    have et := oz_toW_t (show oz_wd T len 60 p = true from c)
    rw [et] at a2
    rw [if_pos c, et]
    have X2 := oz_MX_13 (v := nI (6 - r)) a2
    obtain ⟨v, u2, b1, b2, b3, b4⟩ := h3 _ _ X2 oz_w_s
    have u213 : u2.1 389 13 = nI (6 - r) := by rw [b3.2 13 (by omega) (by omega)]; exact oz_w_s
    have fin := back u1 u2 f1 u13 (oz_fd_of b3) u213
    have eg : oz_gm (lf_w u1 389 13 (nI (6 - r))) = oz_gm s := by rw [oz_gm_fd (oz_fd_w (s := u1) (v := nI (6 - r)) (Or.inr (Or.inr rfl))), oz_gm_fm f1]
    rw [a1, Option.bind_some]
    simp only [if_true]
    rw [u13, if_neg n6, pl_1, nI_add, show 6 - (r + 1) + 1 = 6 - r by omega, b1, Option.bind_some]
    have o : (oz_atm T len r (Sum.inr (oz_sb T len (p + (mj_tx 60).length)))).2.isRight = true → oz_one (oz_gm s) (21 - 2 * (r + 1)) ((oz_atm T len r (Sum.inr (oz_sb T len (p + (mj_tx 60).length)))).1 ++ [1010]) (oz_bi (!v)) := fun h => by
      rw [← oz_bi_not, ← eg]
      exact oz_one_le (oz_one_not (b4 h)) (by omega)
    cases v with
    | true =>
      rw [if_pos (show true = true from rfl), oz_rb0, Option.bind_some]
      exact ⟨false, _, rfl, oz_MY_13 (oz_MY_le b2 (by omega)), fin, o⟩
    | false =>
      rw [if_neg (show ¬ (false = true) from Bool.noConfusion), show nI 1 = (1 : Int32) from rfl, oz_rb1, Option.bind_some]
      exact ⟨true, _, rfl, oz_MY_13 (oz_MY_le b2 (by omega)), fin, o⟩
  · obtain ⟨u1, a1, a2, a3, a4⟩ := w.2 (by cases h : oz_wd T len 60 p with
      | false => rfl
      | true => exact absurd h c)
    have f1 := oz_fm_tr k3 a3
    rw [a1, Option.bind_some, if_neg c]
    simp only [Bool.false_eq_true, if_false]
    rw [pl_40]
    obtain ⟨u2, b1, b2, b3, b4⟩ := m_isSign a2 (c := 40) (by omega)
    have f2 := oz_fm_tr f1 b3
    by_cases c2 : oz_isG T len 40 (Sum.inr p) = true
    · have c2' : p < len ∧ T p = 40 := of_decide_eq_true c2
      have et : oz_toG T len 40 (Sum.inr p) = Sum.inr (oz_sb T len (p + 1)) := if_pos c2'
      have u13 : u2.1 389 13 = nI (6 - (r + 1)) := by rw [b3.2 13 (by omega) (by omega), a3.2 13 (by omega) (by omega)]; exact h13'
      rw [c2] at b1
      rw [oz_tkt b1, if_pos c2, et]
      have X2 := oz_MX_13 (v := nI (6 - r)) b2
      have e11 : (lf_w u2 389 13 (nI (6 - r))).1 389 11 = nI p := by rw [oz_w_n (by omega)]; exact b4
      have X3 := oz_MX_up1 X2 e11 c2'.1
      obtain ⟨v, u3, d1, d2, d3, d4⟩ := h1 _ _ X3 (by rw [oz_w_n (by omega)]; exact oz_w_s)
      have u313 : u3.1 389 13 = nI (6 - r) := by rw [d3.2 13 (by omega) (by omega), oz_w_n (by omega)]; exact oz_w_s
      have fd3 : oz_fdd (lf_w u2 389 13 (nI (6 - r))) u3 := oz_fd_tr (oz_fd_w (Or.inl rfl)) (oz_fd_of d3)
      have eg : oz_gm (lf_w (lf_w u2 389 13 (nI (6 - r))) 389 11 (nI (p + 1))) = oz_gm s := by rw [oz_gm_fd (oz_fd_w (Or.inl rfl)), oz_gm_fd (oz_fd_w (Or.inr (Or.inr rfl))), oz_gm_fm f2]
      try dsimp only
      rw [u13, if_neg n6, pl_1, nI_add, show 6 - (r + 1) + 1 = 6 - r by omega, e11, nI_add, d1, Option.bind_some]
      try dsimp only
      have o : (oz_jn T len 58 1015 (oz_jn T len 59 1014 (oz_atm T len r)) (Sum.inr (oz_sb T len (p + 1)))).2.isRight = true → oz_one (oz_gm s) (21 - 2 * (r + 1)) (oz_jn T len 58 1015 (oz_jn T len 59 1014 (oz_atm T len r)) (Sum.inr (oz_sb T len (p + 1)))).1 (oz_bi v) := fun h => by
        rw [← eg]
        exact oz_one_le (d4 h) (by omega)
      cases hs : (oz_jn T len 58 1015 (oz_jn T len 59 1014 (oz_atm T len r)) (Sum.inr (oz_sb T len (p + 1)))).2 with
      | inl q =>
        rw [hs] at d2
        have g0 : oz_isG T len 41 (Sum.inl q) = false := rfl
        rw [if_neg (oz_atY d2), g0, if_neg (show ¬ (false = true) from Bool.noConfusion)]
        have X4 := oz_MY_up d2
        have u413 : (lf_w u3 389 11 (u3.1 389 11 + 1)).1 389 13 = nI (6 - r) := (oz_w_n (by omega)).trans u313
        exact ⟨v, _, rfl, oz_MY_13 X4, back u2 (lf_w u3 389 11 (u3.1 389 11 + 1)) f2 u13 (oz_fd_tr fd3 (oz_fd_w (Or.inl rfl))) u413, fun h => Bool.noConfusion h⟩
      | inr p2 =>
        rw [hs] at d2
        have X4 := oz_MY_r d2
        rw [if_pos (oz_at X4), pl_41]
        obtain ⟨u4, g1, g2, g3, g4⟩ := m_isSign X4 (c := 41) (by omega)
        have fd4 := oz_fd_tr fd3 (oz_fd_of g3)
        by_cases c3 : oz_isG T len 41 (Sum.inr p2) = true
        · have c3' : p2 < len ∧ T p2 = 41 := of_decide_eq_true c3
          rw [c3] at g1
          rw [oz_tkt g1, if_pos c3]
          have X5 := oz_MX_up1 g2 g4 c3'.1
          have et2 : oz_toG T len 41 (Sum.inr p2) = Sum.inr (oz_sb T len (p2 + 1)) := if_pos c3'
          have u513 : (lf_w u4 389 11 (nI (p2 + 1))).1 389 13 = nI (6 - r) := (oz_w_n (by omega)).trans ((g3.2 13 (by omega) (by omega)).trans u313)
          rw [et2]
          try dsimp only
          rw [g4, nI_add]
          refine ⟨v, _, rfl, oz_MY_13 (oz_MY_of X5), back u2 (lf_w u4 389 11 (nI (p2 + 1))) f2 u13 (oz_fd_tr fd4 (oz_fd_w (Or.inl rfl))) u513, fun _ => o (by rw [hs]; rfl)⟩
        · have e3 : oz_isG T len 41 (Sum.inr p2) = false := by
            cases h : oz_isG T len 41 (Sum.inr p2) with
            | false => rfl
            | true => exact absurd h c3
          have hp2 := oz_MX_p X4
          rw [e3] at g1
          rw [oz_tkf g1, if_neg c3]
          obtain ⟨u5, i1, i2, i3⟩ := m_wrongQ g2 (q := p2) (by omega)
          try dsimp only
          rw [g4, i1, Option.bind_some]
          have X6 := oz_MY_up (oz_MY_of (d := r) i2)
          have u613 : (lf_w u5 389 11 (u5.1 389 11 + 1)).1 389 13 = nI (6 - r) := (oz_w_n (by omega)).trans ((i3.2 13 (by omega) (by omega)).trans ((g3.2 13 (by omega) (by omega)).trans u313))
          exact ⟨v, _, rfl, oz_MY_13 X6, back u2 (lf_w u5 389 11 (u5.1 389 11 + 1)) f2 u13 (oz_fd_tr fd4 (oz_fd_tr (oz_fd_of i3) (oz_fd_w (Or.inl rfl)))) u613, fun h => Bool.noConfusion h⟩
    · have e2 : oz_isG T len 40 (Sum.inr p) = false := by
        cases h : oz_isG T len 40 (Sum.inr p) with
        | false => rfl
        | true => exact absurd h c2
      rw [e2] at b1
      rw [oz_tkf b1, if_neg c2]
      obtain ⟨v, u, j1, j2, j3, j4⟩ := m_plain b2
      try dsimp only
      rw [j1, Option.bind_some]
      exact oz_QR_tr f2 ⟨v, u, rfl, oz_MY_le j2 (by omega), j3, fun h => oz_one_le (j4 h) (by omega)⟩
theorem m_condG : ∀ r, r ≤ 6 → (∀ n, 3 * r + 1 ≤ n → oz_MP T len r (21 - 2 * r) (F_Mod_some n).2.2 (oz_atm T len r)) ∧ (∀ n, 3 * r + 3 ≤ n → oz_MP T len r (19 - 2 * r) (F_Mod_some n).1 (oz_jn T len 58 1015 (oz_jn T len 59 1014 (oz_atm T len r)))) := by
  intro r
  have up : ∀ r, r ≤ 6 → (∀ n, 3 * r + 1 ≤ n → oz_MP T len r (21 - 2 * r) (F_Mod_some n).2.2 (oz_atm T len r)) → (∀ n, 3 * r + 3 ≤ n → oz_MP T len r (19 - 2 * r) (F_Mod_some n).1 (oz_jn T len 58 1015 (oz_jn T len 59 1014 (oz_atm T len r)))) := by
    intro r hr h n hn
    obtain ⟨n, rfl⟩ : ∃ m, n = m + 2 := ⟨n - 2, by omega⟩
    have a : oz_MP T len r (20 - 2 * r) (F_Mod_some (n + 1)).2.1 (oz_jn T len 59 1014 (oz_atm T len r)) := m_every (q1 := (F_Mod_some n).1) (q2 := (F_Mod_some n).2.1) (q3 := (F_Mod_some n).2.2) (B := 20 - 2 * r) (by rw [show 20 - 2 * r + 1 = 21 - 2 * r by omega]; exact h n (by omega)) (oz_ln_atm r)
    exact m_some (q1 := (F_Mod_some (n + 1)).1) (q2 := (F_Mod_some (n + 1)).2.1) (q3 := (F_Mod_some (n + 1)).2.2) (B := 19 - 2 * r) (by rw [show 19 - 2 * r + 1 = 20 - 2 * r by omega]; exact a) (fun st hl => oz_ln_jn (by decide +kernel) (oz_ln_atm r) hl)
  induction r with
  | zero =>
    intro _
    have z : ∀ n, 3 * 0 + 1 ≤ n → oz_MP T len 0 (21 - 2 * 0) (F_Mod_some n).2.2 (oz_atm T len 0) := by
      intro n hn
      obtain ⟨n, rfl⟩ : ∃ m, n = m + 1 := ⟨n - 1, by omega⟩
      exact m_atom0 (q1 := (F_Mod_some n).1) (q2 := (F_Mod_some n).2.1) (q3 := (F_Mod_some n).2.2)
    exact ⟨z, up 0 (by omega) z⟩
  | succ r ih =>
    intro hr
    obtain ⟨i1, i3⟩ := ih (by omega)
    have z : ∀ n, 3 * (r + 1) + 1 ≤ n → oz_MP T len (r + 1) (21 - 2 * (r + 1)) (F_Mod_some n).2.2 (oz_atm T len (r + 1)) := by
      intro n hn
      obtain ⟨n, rfl⟩ : ∃ m, n = m + 1 := ⟨n - 1, by omega⟩
      exact m_atom1 (q2 := (F_Mod_some n).2.1) hr (i1 n (by omega)) (i3 n (by omega))
    exact ⟨z, up (r + 1) hr z⟩
theorem m_cond : oz_MP T len 6 7 f_Mod_some (oz_cnd T len) := (m_condG 6 (by omega)).2 64 (by omega)
end
