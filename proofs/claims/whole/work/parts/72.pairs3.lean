/-! ===== pairs: the model's table filled, and read ===== -/
theorem oz_clr_le : ∀ x, x < 64 → ∀ o, o < 6 → oz_clr x o ≤ x ∧ (x.testBit o = true → oz_clr x o < x) := by decide +kernel
theorem oz_tb_lt {x n k : Nat} (h : x < 2 ^ n) (hk : x.testBit k = true) : k < n := by
  by_cases c : k < n
  · exact c
  · have := Nat.testBit_lt_two_pow (Nat.lt_of_lt_of_le h (Nat.pow_le_pow_right (by omega) (show n ≤ k by omega)))
    rw [this] at hk
    exact Bool.noConfusion hk
section
variable {s : lf_S} {a : Nat → Nat}
theorem m_best51 (V : oz_V a) {x : lf_S} {set m : Nat} (hs : set < 64) (h0 : set ≠ 0) (hm : oz_low set + (m + 1) = a 3) (TB : ∀ z, z < set → x.1 397 z = nI (oz_pw a z)) (h1 : x.1 397 set = nI (oz_pp a m (oz_low set + 1) set.testBit).1) :
    ∃ t, f_Mod_allBest_51 (nI set) (nI (oz_low set)) (nI (oz_clr set (oz_low set))) 5000 (nI (oz_low set + 1)) (oz_md x a) = some (oz_md t a) ∧ (t.1 397 set = nI (oz_pw a set) ∧ (∀ z, z < set → t.1 397 z = nI (oz_pw a z)) ∧ oz_fr (fun p => p = 397) x t) := by
  have hv := oz_v0 V
  unfold oz_V0 at hv
  obtain ⟨l1, l2, l3⟩ := oz_low_s set hs h0
  have es := oz_pw_set V hm l3
  have epp : oz_pp a (m + 1) (oz_low set) set.testBit = oz_it (oz_tps (oz_pv a (oz_low set)) (fun j => (oz_pp a m (oz_low set + 1) (oz_wo set.testBit j)).1) (oz_pM a (oz_low set) set.testBit)) (a 3) ((oz_pp a m (oz_low set + 1) set.testBit).1, none) := rfl
  have w0 := oz_pp_le V m (oz_low set + 1) set.testBit (by omega)
  have tw := fun j h1 h2 => oz_pw_two V hs hm l3 (j := j) h1 h2
  generalize oz_low set = l at *
  have h64 := oz_clr_l set hs l l1
  have start := oz_tps_it (val := oz_pv a l) (W := fun j => (oz_pp a m (l + 1) (oz_wo set.testBit j)).1) (M := oz_pM a l set.testBit) (P := ((oz_pp a m (l + 1) set.testBit).1, none)) (l + 1) (fun o ho => oz_pM_i (by omega))
  obtain ⟨t, k1, k2, k3, k4, k5, k6⟩ := oz_forE (N := a 3) (fun j (y : lf_S) => l + 1 ≤ j ∧ (oz_it (oz_tps (oz_pv a l) (fun j => (oz_pp a m (l + 1) (oz_wo set.testBit j)).1) (oz_pM a l set.testBit)) j ((oz_pp a m (l + 1) set.testBit).1, none)).1 ≤ 198 * (m + 1) ∧ y.1 397 set = nI (oz_it (oz_tps (oz_pv a l) (fun j => (oz_pp a m (l + 1) (oz_wo set.testBit j)).1) (oz_pM a l set.testBit)) j ((oz_pp a m (l + 1) set.testBit).1, none)).1 ∧ (∀ z, z < set → y.1 397 z = nI (oz_pw a z)) ∧ oz_fr (fun p => p = 397) x y) (fun f j y => f_Mod_allBest_51 (nI set) (nI l) (nI (oz_clr set l)) f (nI j) (oz_md y a)) (fun y => oz_md y a) (by
      intro f y hy
      rw [f_Mod_allBest_51, pl_3, oz_ck (by omega) (by omega), oz_md_r, oz_ile_t (by omega) (by omega)]) (by
      intro f j y hj hy
      obtain ⟨y0, y1, y2, y3, y4⟩ := hy
      have es2 : oz_it (oz_tps (oz_pv a l) (fun j => (oz_pp a m (l + 1) (oz_wo set.testBit j)).1) (oz_pM a l set.testBit)) (j + 1) ((oz_pp a m (l + 1) set.testBit).1, none) = oz_tps (oz_pv a l) (fun j => (oz_pp a m (l + 1) (oz_wo set.testBit j)).1) (oz_pM a l set.testBit) j (oz_it (oz_tps (oz_pv a l) (fun j => (oz_pp a m (l + 1) (oz_wo set.testBit j)).1) (oz_pM a l set.testBit)) j ((oz_pp a m (l + 1) set.testBit).1, none)) := rfl
      rw [es2]
      generalize oz_it (oz_tps (oz_pv a l) (fun j => (oz_pp a m (l + 1) (oz_wo set.testBit j)).1) (oz_pM a l set.testBit)) j ((oz_pp a m (l + 1) set.testBit).1, none) = P at *
      have hb := oz_clr_b set hs l l1 j (by omega)
      have hne : (j == l) = false := by simp; omega
      rw [hne] at hb
      have hb' : (oz_clr set l).testBit j = set.testBit j := by rw [hb]; simp
      cases cb : set.testBit j with
      | false =>
        have e : oz_pM a l set.testBit j = false := by unfold oz_pM; rw [cb]; simp
        rw [oz_tps_f e]
        refine ⟨y, ⟨by omega, y1, y2, y3, y4⟩, ?_⟩
        rw [f_Mod_allBest_51, pl_3, oz_ck (by omega) (by omega), oz_md_r, oz_ile_f hj (by omega), m_isOf (by omega) (by omega), Option.bind_some, hb', cb, if_neg Bool.noConfusion]
        simp only [lf_lt, pl_1, nI_add]
      | true =>
        have mb := m_both (s := y) V (show l < a 3 by omega) hj
        by_cases ck : oz_bed a l 0 = oz_bed a j 0
        · have e : oz_pM a l set.testBit j = false := by unfold oz_pM; rw [ck]; simp
          rw [oz_tps_f e]
          refine ⟨y, ⟨by omega, y1, y2, y3, y4⟩, ?_⟩
          rw [if_pos ck] at mb
          rw [f_Mod_allBest_51, pl_3, oz_ck (by omega) (by omega), oz_md_r, oz_ile_f hj (by omega), m_isOf (by omega) (by omega), Option.bind_some, hb', cb, if_pos rfl, mb, Option.bind_some, pl_1, oz_neg1, if_pos rfl]
          simp only [lf_lt, nI_add]
        · rw [if_neg ck] at mb
          have e : oz_pM a l set.testBit j = true := by
            unfold oz_pM
            rw [l2, cb, decide_eq_true (show l < j by omega)]
            simpa using ck
          have wj := oz_pp_le V m (l + 1) (oz_wo set.testBit j) (by omega)
          have hval := oz_pv_le V (show l < a 3 by omega) hj
          have c1 := oz_clr_le set hs l l1
          have c2 := oz_clr_le _ h64 j (by omega)
          have z := y3 (oz_clr (oz_clr set l) j) (by have := c1.2 l2; omega)
          rw [tw j hj (by omega)] at z
          have step : f_Mod_allBest_51 (nI set) (nI l) (nI (oz_clr set l)) (f + 1) (nI j) (oz_md y a) = f_Mod_allBest_51 (nI set) (nI l) (nI (oz_clr set l)) f (nI (j + 1)) (oz_md (lf_w y 397 set (nI (max P.1 (oz_pv a l j + (oz_pp a m (l + 1) (oz_wo set.testBit j)).1)))) a) := by
            rw [f_Mod_allBest_51, pl_3, oz_ck (by omega) (by omega), oz_md_r, oz_ile_f hj (by omega), m_isOf (by omega) (by omega), Option.bind_some, hb', cb, if_pos rfl, mb, Option.bind_some, pl_1, pl_31, oz_neg1, if_neg (of_eq_false (oz_eqm1 (by omega))), oz_ck (by omega) (by omega), Option.bind_some, oz_clr_i _ h64 j (by omega), oz_ck (by omega) (by omega), oz_md_o (by omega), y2, z, nI_add, m_greater (by omega) (by omega), Option.bind_some, oz_ck (by omega) (by omega)]
            simp only [lf_lt, nI_add]
            rw [oz_md_wo (by omega)]
          have ep : max P.1 (oz_pv a l j + (oz_pp a m (l + 1) (oz_wo set.testBit j)).1) = (oz_tps (oz_pv a l) (fun j => (oz_pp a m (l + 1) (oz_wo set.testBit j)).1) (oz_pM a l set.testBit) j P).1 := by
            unfold oz_tps
            by_cases c : P.1 < oz_pv a l j + (oz_pp a m (l + 1) (oz_wo set.testBit j)).1
            · rw [if_pos ⟨e, c⟩]
              exact Nat.max_eq_right (Nat.le_of_lt c)
            · rw [if_neg (fun z => c z.2)]
              exact Nat.max_eq_left (Nat.le_of_not_lt c)
          refine ⟨_, ⟨by omega, ?_, ?_, fun z hz => ?_, oz_fr_tr y4 (oz_fr_w rfl)⟩, step⟩
          · rw [← ep]; omega
          · rw [oz_w_s, ep]
          · rw [oz_w_n (by omega)]; exact y3 z hz) (a 3 - (l + 1)) (l + 1) 5000 x (by omega) (by omega) ⟨by omega, by
            rw [start]
            show (oz_pp a m (l + 1) set.testBit).1 ≤ _
            omega, by rw [start]; exact h1, TB, oz_fr_rf⟩
  refine ⟨t, k1, ?_, k5, k6⟩
  rw [k4, es, epp]
theorem oz_pw_0 (V : oz_V a) : oz_pw a 0 = 0 := by
  unfold oz_pw
  rw [oz_pp_go (a 3) (a 3) 0 (by omega) (by omega) (fun y _ _ => Nat.zero_testBit y), Nat.sub_self]
  rfl
theorem oz_pow6 {n : Nat} (h : n ≤ 6) : 2 ^ n ≤ 64 := Nat.le_trans (Nat.pow_le_pow_right (show 0 < 2 by omega) h) (show 2 ^ 6 ≤ 64 by decide)
theorem m_allBest (V : oz_V a) : ∃ t, f_Mod_allBest (oz_md s a) = some (oz_md t a) ∧ (∀ z, z < 2 ^ a 3 → t.1 397 z = nI (oz_pw a z)) ∧ oz_fr (fun p => p = 397) s t := by
  have hv := oz_v0 V
  unfold oz_V0 at hv
  have hp := oz_pow6 hv.2.1
  have hp1 : 1 ≤ 2 ^ a 3 := Nat.one_le_two_pow
  obtain ⟨t, k1, k2, k3, k4⟩ := oz_forE (N := 2 ^ a 3) (fun set (y : lf_S) => 1 ≤ set ∧ (∀ z, z < set → y.1 397 z = nI (oz_pw a z)) ∧ oz_fr (fun p => p = 397) s y) (fun f set y => f_Mod_allBest_9 f (nI set) (oz_md y a)) (fun y => oz_md y a) (by
      intro f y hy
      rw [f_Mod_allBest_9, pl_3, oz_ck (by omega) (by omega), oz_md_r, pl_1, pl_31, oz_shl1 (by omega), oz_ile_t (by omega) (by omega)]) (by
      intro f set y hs hy
      obtain ⟨y1, y2, y3⟩ := hy
      have h0 : set ≠ 0 := by omega
      have h64 : set < 64 := by omega
      obtain ⟨l1, l2, l3⟩ := oz_low_s set h64 h0
      have ln := oz_tb_lt hs l2
      have c1 := (oz_clr_le set h64 _ l1).2 l2
      have er := oz_pw_rest V h64 (m := a 3 - (oz_low set + 1)) (by omega) l3
      have yr := y2 (oz_clr set (oz_low set)) c1
      rw [er] at yr
      obtain ⟨t, g1, g2, g3, g4⟩ := m_best51 V (x := lf_w y 397 set (nI (oz_pp a (a 3 - (oz_low set + 1)) (oz_low set + 1) set.testBit).1)) (m := a 3 - (oz_low set + 1)) h64 h0 (by omega) (fun z hz => by rw [oz_w_n (by omega)]; exact y2 z hz) oz_w_s
      refine ⟨t, ⟨by omega, fun z hz => ?_, oz_fr_tr y3 (oz_fr_tr (oz_fr_w rfl) g4)⟩, ?_⟩
      · by_cases c : z = set
        · rw [c]; exact g2
        · exact g3 z (by omega)
      · rw [f_Mod_allBest_9, pl_3, oz_ck (by omega) (by omega), oz_md_r, pl_1, pl_31, oz_shl1 (by omega), oz_ile_f hs (by omega), m_lowest h64 h0, Option.bind_some]
        simp only [lf_lt]
        rw [oz_neg1, oz_clr_i set h64 _ l1, oz_ck (by omega) (by omega), oz_ck (by omega) (by omega), oz_md_o (by omega), yr, oz_md_wo (by omega), nI_add, g1, Option.bind_some, nI_add]) (2 ^ a 3 - 1) 1 5000 (lf_w s 397 0 (nI 0)) (by omega) (by omega) ⟨by omega, fun z hz => by
        obtain rfl : z = 0 := by omega
        rw [oz_pw_0 V]; exact oz_w_s, oz_fr_w rfl⟩
  refine ⟨t, ?_, k3, k4⟩
  unfold f_Mod_allBest
  rw [pl_0, oz_ck (by omega) (by omega)]
  simp only [lf_lt, pl_1]
  rw [oz_md_wo (by omega), k1, Option.bind_some]
def oz_qq (a : Nat → Nat) (m l set o : Nat) : Bool := oz_pM a l set.testBit o && decide (oz_pv a l o + (oz_pp a m (l + 1) (oz_wo set.testBit o)).1 = oz_pw a set)
theorem oz_lo_low {Q : Nat → Bool} : ∀ j x, (∀ o, o < j → Q o = false) → oz_lo Q j x = x := by
  intro j
  induction j with
  | zero => intro x _; rfl
  | succ j ih =>
    intro x h
    unfold oz_lo
    rw [h j (by omega), if_neg Bool.noConfusion]
    exact ih x (fun o ho => h o (by omega))
theorem m_pairs89 (V : oz_V a) {x : lf_S} {set m l : Nat} {c1 : Int32} (hs : set < 2 ^ a 3) (hm : l + (m + 1) = a 3) (l2 : set.testBit l = true) (l3 : ∀ k, k < l → set.testBit k = false) (TB : ∀ z, z < 2 ^ a 3 → x.1 397 z = nI (oz_pw a z)) (hne : oz_pw a (oz_clr set l) ≠ oz_pw a set) : ∀ j fuel c, j ≤ a 3 → j < fuel → f_Mod_pairs_89 c1 (nI set) (nI l) (nI (oz_clr set l)) fuel (oz_en c) (oz_dw j) (oz_md x a) = some (oz_en (oz_lo (oz_qq a m l set) j c), oz_md x a) := by
  have hv := oz_v0 V
  unfold oz_V0 at hv
  have hp := oz_pow6 hv.2.1
  have h64s : set < 64 := by omega
  have h64 := oz_clr_l set h64s l (by omega)
  have c1' := oz_clr_le set h64s l (by omega)
  have q0 : ∀ o, o ≤ l → oz_qq a m l set o = false := fun o ho => by
    unfold oz_qq
    rw [oz_pM_i ho, Bool.false_and]
  intro j
  induction j with
  | zero =>
    intro fuel c h1 h2
    obtain ⟨fuel, rfl⟩ : ∃ m, fuel = m + 1 := ⟨fuel - 1, by omega⟩
    rw [f_Mod_pairs_89, if_pos (show oz_dw 0 ≤ nI l from of_eq_true (oz_m1le (by omega)))]
    rfl
  | succ o ih =>
    intro fuel c h1 h2
    obtain ⟨fuel, rfl⟩ : ∃ m, fuel = m + 1 := ⟨fuel - 1, by omega⟩
    have ho : o < a 3 := by omega
    have el : oz_lo (oz_qq a m l set) (o + 1) c = oz_lo (oz_qq a m l set) o (if oz_qq a m l set o = true then some o else c) := rfl
    rw [show oz_dw (o + 1) = nI o from rfl, f_Mod_pairs_89]
    by_cases cl : o ≤ l
    · rw [oz_ile_t cl (by omega), oz_lo_low (o + 1) c (fun z hz => q0 z (by omega))]
    · have er : ∀ c', f_Mod_pairs_89 c1 (nI set) (nI l) (nI (oz_clr set l)) fuel (oz_en c') (nI o + oz_N) (oz_md x a) = some (oz_en (oz_lo (oz_qq a m l set) o c'), oz_md x a) := by
        intro c'
        rw [oz_dw_a]
        exact ih fuel c' (by omega) (by omega)
      have wr := oz_pw_le V (set := oz_clr set l)
      have ws := oz_pw_le V (set := set)
      have hb := oz_clr_b set h64s l (by omega) o (by omega)
      have hneo : (o == l) = false := by simp; omega
      rw [hneo] at hb
      have hb' : (oz_clr set l).testBit o = set.testBit o := by rw [hb]; simp
      rw [el, oz_ile_f (by omega) (by omega), oz_ck (by omega) (by omega), oz_ck (by omega) (by omega), oz_md_o (by omega), TB _ (by have := c1'.1; omega), TB set hs, if_neg (by rw [oz_eq (by omega) (by omega)]; exact hne), m_isOf (by omega) (by omega), Option.bind_some, hb']
      cases cb : set.testBit o with
      | false =>
        have e : oz_pM a l set.testBit o = false := by unfold oz_pM; rw [cb]; simp
        have eq : oz_qq a m l set o = false := by unfold oz_qq; rw [e, Bool.false_and]
        rw [if_neg Bool.noConfusion, eq, if_neg Bool.noConfusion]
        simp only [lf_lt, pl_1, oz_neg1]
        exact er c
      | true =>
        have mb := m_both (s := x) V (show l < a 3 by omega) ho
        by_cases ck : oz_bed a l 0 = oz_bed a o 0
        · have e : oz_pM a l set.testBit o = false := by unfold oz_pM; rw [ck]; simp
          have eq : oz_qq a m l set o = false := by unfold oz_qq; rw [e, Bool.false_and]
          rw [if_pos ck] at mb
          rw [if_pos rfl, mb, Option.bind_some, pl_1, oz_neg1, if_pos rfl, eq, if_neg Bool.noConfusion]
          simp only [lf_lt]
          exact er c
        · rw [if_neg ck] at mb
          have e : oz_pM a l set.testBit o = true := by
            unfold oz_pM
            rw [l2, cb, decide_eq_true (show l < o by omega)]
            simpa using ck
          have wj := oz_pp_le V m (l + 1) (oz_wo set.testBit o) (by omega)
          have hval := oz_pv_le V (show l < a 3 by omega) ho
          have c2 := oz_clr_le _ h64 o (by omega)
          have z := TB (oz_clr (oz_clr set l) o) (by have := c1'.1; have := c2.1; omega)
          rw [oz_pw_two V h64s hm l3 ho (by omega)] at z
          rw [if_pos rfl, mb, Option.bind_some, pl_1, pl_31, oz_neg1, if_neg (of_eq_false (oz_eqm1 (by omega))), Option.bind_some, oz_clr_i _ h64 o (by omega), oz_ck (by have := c1'.1; have := c2.1; omega) (by omega), z, nI_add, oz_ck (by omega) (by omega), TB set hs]
          by_cases cq : oz_pv a l o + (oz_pp a m (l + 1) (oz_wo set.testBit o)).1 = oz_pw a set
          · have eq : oz_qq a m l set o = true := by unfold oz_qq; rw [e, decide_eq_true cq]; rfl
            rw [if_pos (by rw [cq]), eq, if_pos rfl]
            simp only [lf_lt]
            exact er (some o)
          · have eq : oz_qq a m l set o = false := by unfold oz_qq; rw [decide_eq_false cq, Bool.and_false]
            rw [if_neg (by rw [oz_eq (by omega) (by omega)]; exact cq), eq, if_neg Bool.noConfusion]
            simp only [lf_lt]
            exact er c
end
