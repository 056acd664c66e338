/-! ===== weaves: the model's side and the class's ===== -/
/-- the runs from the i-th on: where a place lies -/
def oz_run (R : Nat → Nat) : Nat → Nat → Nat → Nat
  | 0, _, i => i
  | n + 1, left, i => if left < R i then i else oz_run R n (left - R i) (i + 1)
/-- the places passed over by the first so many runs, as bits -/
def oz_obn (R : Nat → Nat) : Nat → Nat
  | 0 => 0
  | i + 1 => if i % 2 = 0 then oz_obn R i ||| ((2 ^ R i - 1) * 2 ^ oz_sum R i) else oz_obn R i
theorem oz_obn_lt {R : Nat → Nat} {n : Nat} : oz_obn R n < 2 ^ oz_sum R n := by
  induction n with
  | zero => exact Nat.one_pos
  | succ n ih =>
    have e : oz_sum R (n + 1) = R n + oz_sum R n := Nat.add_comm _ _
    have h2 : 2 ^ oz_sum R n ≤ 2 ^ oz_sum R (n + 1) := Nat.pow_le_pow_right (by omega) (by omega)
    unfold oz_obn
    split
    · refine Nat.or_lt_two_pow (by omega) ?_
      rw [e, Nat.pow_add]
      have h3 : 0 < 2 ^ R n := Nat.two_pow_pos _
      exact Nat.mul_lt_mul_of_pos_right (by omega) (Nat.two_pow_pos _)
    · omega
theorem oz_obn_bit {R : Nat → Nat} {n j q : Nat} (hj : j < n) (h1 : oz_sum R j ≤ q) (h2 : q < oz_sum R (j + 1)) : (oz_obn R n).testBit q = decide (j % 2 = 0) := by
  induction n with
  | zero => omega
  | succ n ih =>
    have e : ((2 ^ R n - 1) * 2 ^ oz_sum R n).testBit q = (decide (q ≥ oz_sum R n) && decide (q - oz_sum R n < R n)) := by
      rw [← Nat.shiftLeft_eq, Nat.testBit_shiftLeft, Nat.testBit_two_pow_sub_one]
    unfold oz_obn
    by_cases c : j = n
    · subst c
      have e0 : (oz_obn R j).testBit q = false := Nat.testBit_lt_two_pow (Nat.lt_of_lt_of_le oz_obn_lt (Nat.pow_le_pow_right (by omega) h1))
      have h3 : q < oz_sum R j + R j := h2
      split
      · rename_i h
        rw [Nat.testBit_or, e0, e, decide_eq_true h1, decide_eq_true (by omega : q - oz_sum R j < R j), decide_eq_true h]; rfl
      · rename_i h
        rw [e0, decide_eq_false h]
    · have h3 : q < oz_sum R n := Nat.lt_of_lt_of_le h2 (oz_sum_mono (by omega))
      split
      · rw [Nat.testBit_or, ih (by omega), e, decide_eq_false (by omega : ¬ q ≥ oz_sum R n), Bool.false_and, Bool.or_false]
      · exact ih (by omega)
theorem oz_run_spec {R : Nat → Nat} {n : Nat} : ∀ k i left, i + k = n → left + oz_sum R i < oz_sum R n → ∃ j, i ≤ j ∧ j < n ∧ oz_sum R j ≤ left + oz_sum R i ∧ left + oz_sum R i < oz_sum R (j + 1) ∧ oz_run R k left i = j := by
  intro k
  induction k with
  | zero =>
    intro i left e h
    obtain rfl : i = n := by omega
    omega
  | succ k ih =>
    intro i left e h
    unfold oz_run
    by_cases c : left < R i
    · rw [if_pos c]
      refine ⟨i, Nat.le_refl _, by omega, by omega, ?_, rfl⟩
      show _ < oz_sum R i + R i
      omega
    · rw [if_neg c]
      have e2 : left - R i + oz_sum R (i + 1) = left + oz_sum R i := by
        show left - R i + (oz_sum R i + R i) = _
        omega
      obtain ⟨j, h1, h2, h3, h4, h5⟩ := ih (i + 1) (left - R i) (by omega) (by omega)
      exact ⟨j, by omega, h2, by omega, by omega, h5⟩
def oz_R (a : Nat → Nat) (k : Nat) : Nat → Nat := fun i => oz_bas a k (5 + i)
def oz_per (a : Nat → Nat) (k : Nat) : Nat := oz_sum (oz_R a k) (oz_bas a k 4)
def oz_ob (a : Nat → Nat) (k : Nat) : Nat := oz_obn (oz_R a k) (oz_bas a k 4)
/-- whether a place is passed over -/
def oz_ov (a : Nat → Nat) (k p : Nat) : Bool := (oz_ob a k).testBit (p % oz_per a k)
section
variable {s : lf_S} {a : Nat → Nat} {k : Nat}
theorem oz_per_le (V : oz_V a) (hk : k < a 4) : 2 ≤ oz_per a k ∧ oz_per a k ≤ 24 := by
  have h2 := oz_v2 V hk
  unfold oz_V2 at h2
  have h3 : oz_per a k ≤ oz_bas a k 4 * 4 := oz_sum_le (fun i hi => (oz_v2r V hk hi).2)
  have h4 : oz_sum (oz_R a k) 2 ≤ oz_per a k := oz_sum_mono h2.2.2.2.2.2.2.2.1
  have h5 : oz_sum (oz_R a k) 2 = 0 + oz_bas a k (5 + 0) + oz_bas a k (5 + 1) := rfl
  have h6 := oz_v2r V hk (show 0 < oz_bas a k 4 by omega)
  have h7 := oz_v2r V hk (show 1 < oz_bas a k 4 by omega)
  omega
theorem oz_ob_lt (V : oz_V a) (hk : k < a 4) : oz_ob a k < 16777216 := by
  have h1 : oz_ob a k < 2 ^ oz_per a k := oz_obn_lt
  have h2 := oz_per_le V hk
  have h3 : 2 ^ oz_per a k ≤ 2 ^ 24 := Nat.pow_le_pow_right (by omega) h2.2
  omega
theorem m_period (V : oz_V a) (hk : k < a 4) : f_Mod_period (nI k) (oz_md s a) = some (nI (oz_per a k)) := by
  have h0 := oz_v0 V
  unfold oz_V0 at h0
  have h2 := oz_v2 V hk
  unfold oz_V2 at h2
  have key : f_Mod_period_4 (nI k) 5000 (nI 0) (nI 0) (oz_md s a) = some (nI (oz_it (fun i x => x + oz_R a k i) (oz_bas a k 4) 0)) := by
    refine oz_for (fun n i x => f_Mod_period_4 (nI k) n (nI x) (nI i) (oz_md s a)) (fun i x => x + oz_R a k i) nI 0 ?_ ?_ 5000 (by omega)
    · intro n x
      simp (disch := first | assumption | omega) only [f_Mod_period_4, lf_lt, Option.bind_some, nI_add, pk_mul, oz_sub, oz_addm1, oz_div, oz_mod, oz_ck, oz_nz, oz_le_t, oz_le_f, oz_lt_t, oz_lt_f, oz_eq_t, oz_eq_f, oz_eqm1, oz_m1eq, oz_m1lt, oz_ltm1, oz_lem1, oz_m1le, oz_mx, oz_mn, if_true, if_false, ite_true, ite_false, oz_md_r, oz_md_o, oz_md_w, oz_md_wo, oz_md_2, Sum.elim_inl, Sum.elim_inr, pl_0, pl_1, pl_2, pl_3, pl_4, pl_5, pl_6, pl_7, pl_8, pl_9, pl_10, pl_11, pl_12, pl_13, m_ofBasket]
    · intro n i x hi
      simp (disch := first | assumption | omega) only [f_Mod_period_4, lf_lt, Option.bind_some, nI_add, pk_mul, oz_sub, oz_addm1, oz_div, oz_mod, oz_ck, oz_nz, oz_le_t, oz_le_f, oz_lt_t, oz_lt_f, oz_eq_t, oz_eq_f, oz_eqm1, oz_m1eq, oz_m1lt, oz_ltm1, oz_lem1, oz_m1le, oz_mx, oz_mn, if_true, if_false, ite_true, ite_false, oz_md_r, oz_md_o, oz_md_w, oz_md_wo, oz_md_2, Sum.elim_inl, Sum.elim_inr, pl_0, pl_1, pl_2, pl_3, pl_4, pl_5, pl_6, pl_7, pl_8, pl_9, pl_10, pl_11, pl_12, pl_13, m_ofBasket, oz_R]
  rw [oz_it_sum] at key
  unfold f_Mod_period
  simp only [lf_lt, pl_0, key, Option.bind_some]; rfl
theorem m_isOver (V : oz_V a) (hk : k < a 4) {p : Nat} (hp : p < 2147483648) : f_Mod_isOver (nI k) (nI p) (oz_md s a) = some (oz_ov a k p) := by
  have h0 := oz_v0 V
  unfold oz_V0 at h0
  have h2 := oz_v2 V hk
  unfold oz_V2 at h2
  have hper := oz_per_le V hk
  have hlt : p % oz_per a k < oz_per a k := Nat.mod_lt _ (by omega)
  have key : ∀ m i left fuel, i + m = oz_bas a k 4 → m < fuel → left + oz_sum (oz_R a k) i < oz_per a k → left < 100 → f_Mod_isOver_11 (nI k) fuel (nI left) (nI i) (oz_md s a) = some (nI (oz_run (oz_R a k) m left i)) := by
    intro m
    induction m with
    | zero =>
      intro i left fuel e hf h
      obtain rfl : i = oz_bas a k 4 := by omega
      unfold oz_per at h
      omega
    | succ m ih =>
      intro i left fuel e hf h hl
      obtain ⟨n, rfl⟩ : ∃ n, fuel = n + 1 := ⟨fuel - 1, by omega⟩
      have hr := oz_v2r V hk (show i < oz_bas a k 4 by omega)
      have hs : oz_sum (oz_R a k) (i + 1) = oz_sum (oz_R a k) i + oz_bas a k (5 + i) := rfl
      unfold oz_run
      by_cases c : left < oz_R a k i
      · rw [if_pos c]
        unfold oz_R at c
        simp (disch := first | assumption | omega) only [f_Mod_isOver_11, lf_lt, Option.bind_some, nI_add, pk_mul, oz_sub, oz_addm1, oz_div, oz_mod, oz_ck, oz_nz, oz_le_t, oz_le_f, oz_lt_t, oz_lt_f, oz_eq_t, oz_eq_f, oz_eqm1, oz_m1eq, oz_m1lt, oz_ltm1, oz_lem1, oz_m1le, oz_mx, oz_mn, if_true, if_false, ite_true, ite_false, oz_md_r, oz_md_o, oz_md_w, oz_md_wo, oz_md_2, Sum.elim_inl, Sum.elim_inr, pl_0, pl_1, pl_2, pl_3, pl_4, pl_5, pl_6, pl_7, pl_8, pl_9, pl_10, pl_11, pl_12, pl_13, m_ofBasket]
      · rw [if_neg c]
        unfold oz_R at c
        simp (disch := first | assumption | omega) only [f_Mod_isOver_11, lf_lt, Option.bind_some, nI_add, pk_mul, oz_sub, oz_addm1, oz_div, oz_mod, oz_ck, oz_nz, oz_le_t, oz_le_f, oz_lt_t, oz_lt_f, oz_eq_t, oz_eq_f, oz_eqm1, oz_m1eq, oz_m1lt, oz_ltm1, oz_lem1, oz_m1le, oz_mx, oz_mn, if_true, if_false, ite_true, ite_false, oz_md_r, oz_md_o, oz_md_w, oz_md_wo, oz_md_2, Sum.elim_inl, Sum.elim_inr, pl_0, pl_1, pl_2, pl_3, pl_4, pl_5, pl_6, pl_7, pl_8, pl_9, pl_10, pl_11, pl_12, pl_13, m_ofBasket]
        exact ih (i + 1) (left - oz_bas a k (5 + i)) n (by omega) (by omega) (by omega) (by omega)
  obtain ⟨j, g1, g2, g3, g4, g5⟩ := oz_run_spec (R := oz_R a k) (n := oz_bas a k 4) (oz_bas a k 4) 0 (p % oz_per a k) (by omega) hlt
  have k2 := key (oz_bas a k 4) 0 (p % oz_per a k) 5000 (by omega) (by omega) (show _ + 0 < _ by omega) (by omega)
  have g6 : oz_sum (oz_R a k) 0 = 0 := rfl
  rw [g5] at k2
  have hov : oz_ov a k p = decide (j % 2 = 0) := oz_obn_bit g2 (by omega) (by omega)
  unfold f_Mod_isOver
  simp (disch := first | assumption | omega) only [lf_lt, Option.bind_some, nI_add, pk_mul, oz_sub, oz_addm1, oz_div, oz_mod, oz_ck, oz_nz, oz_le_t, oz_le_f, oz_lt_t, oz_lt_f, oz_eq_t, oz_eq_f, oz_eqm1, oz_m1eq, oz_m1lt, oz_ltm1, oz_lem1, oz_m1le, oz_mx, oz_mn, if_true, if_false, ite_true, ite_false, oz_md_r, oz_md_o, oz_md_w, oz_md_wo, oz_md_2, Sum.elim_inl, Sum.elim_inr, pl_0, pl_1, pl_2, pl_3, pl_4, pl_5, pl_6, pl_7, pl_8, pl_9, pl_10, pl_11, pl_12, pl_13, m_period V hk, k2, hov]
  by_cases c : j % 2 = 0
  · simp (disch := first | assumption | omega) only [lf_lt, Option.bind_some, nI_add, pk_mul, oz_sub, oz_addm1, oz_div, oz_mod, oz_ck, oz_nz, oz_le_t, oz_le_f, oz_lt_t, oz_lt_f, oz_eq_t, oz_eq_f, oz_eqm1, oz_m1eq, oz_m1lt, oz_ltm1, oz_lem1, oz_m1le, oz_mx, oz_mn, if_true, if_false, ite_true, ite_false, oz_md_r, oz_md_o, oz_md_w, oz_md_wo, oz_md_2, Sum.elim_inl, Sum.elim_inr, pl_0, pl_1, pl_2, pl_3, pl_4, pl_5, pl_6, pl_7, pl_8, pl_9, pl_10, pl_11, pl_12, pl_13, c, decide_true]
  · simp (disch := first | assumption | omega) only [lf_lt, Option.bind_some, nI_add, pk_mul, oz_sub, oz_addm1, oz_div, oz_mod, oz_ck, oz_nz, oz_le_t, oz_le_f, oz_lt_t, oz_lt_f, oz_eq_t, oz_eq_f, oz_eqm1, oz_m1eq, oz_m1lt, oz_ltm1, oz_lem1, oz_m1le, oz_mx, oz_mn, if_true, if_false, ite_true, ite_false, oz_md_r, oz_md_o, oz_md_w, oz_md_wo, oz_md_2, Sum.elim_inl, Sum.elim_inr, pl_0, pl_1, pl_2, pl_3, pl_4, pl_5, pl_6, pl_7, pl_8, pl_9, pl_10, pl_11, pl_12, pl_13, decide_eq_false c]
end
/-! the class's baskets at q -/
def oz_CK (s : lf_S) (q : Nat) (a : Nat → Nat) : Prop := s.1 q 0 = nI (a 4) ∧ ∀ k, k < a 4 → s.1 (q + 1) k = nI (oz_bas a k 0) ∧ s.1 (q + 2) k = nI (oz_bas a k 1) ∧ s.1 (q + 3) k = nI (oz_bas a k 2) ∧ s.1 (q + 4) k = nI (oz_bas a k 3) ∧ s.1 (q + 5) k = nI (oz_bas a k 4) ∧ s.1 (q + 6) k = nI (oz_per a k) ∧ s.1 (q + 8) k = nI (oz_ob a k) ∧ ∀ i, i < oz_bas a k 4 → s.1 (q + 7) (6 * k + i) = nI (oz_bas a k (5 + i))
section
variable {s : lf_S} {q : Nat} {a : Nat → Nat} {k : Nat}
theorem k_0 (C : oz_CK s q a) : s.1 q 0 = nI (a 4) := C.1
theorem k_1 (C : oz_CK s q a) (h : k < a 4) : s.1 (q + 1) k = nI (oz_bas a k 0) := (C.2 k h).1
theorem k_2 (C : oz_CK s q a) (h : k < a 4) : s.1 (q + 2) k = nI (oz_bas a k 1) := (C.2 k h).2.1
theorem k_3 (C : oz_CK s q a) (h : k < a 4) : s.1 (q + 3) k = nI (oz_bas a k 2) := (C.2 k h).2.2.1
theorem k_4 (C : oz_CK s q a) (h : k < a 4) : s.1 (q + 4) k = nI (oz_bas a k 3) := (C.2 k h).2.2.2.1
theorem k_5 (C : oz_CK s q a) (h : k < a 4) : s.1 (q + 5) k = nI (oz_bas a k 4) := (C.2 k h).2.2.2.2.1
theorem k_6 (C : oz_CK s q a) (h : k < a 4) : s.1 (q + 6) k = nI (oz_per a k) := (C.2 k h).2.2.2.2.2.1
theorem k_8 (C : oz_CK s q a) (h : k < a 4) : s.1 (q + 8) k = nI (oz_ob a k) := (C.2 k h).2.2.2.2.2.2.1
theorem k_7 (C : oz_CK s q a) (h : k < a 4) {i : Nat} (hi : i < oz_bas a k 4) : s.1 (q + 7) (6 * k + i) = nI (oz_bas a k (5 + i)) := (C.2 k h).2.2.2.2.2.2.2 i hi
theorem c_over (V : oz_V a) (C : oz_CK s q a) (hk : k < a 4) {p : Nat} (hp : p < 2147483648) : f_Baskets_passesOver q (nI k) (nI p) s = some (oz_ov a k p) := by
  have h0 := oz_v0 V
  unfold oz_V0 at h0
  have hper := oz_per_le V hk
  have hob := oz_ob_lt V hk
  have hlt : p % oz_per a k < oz_per a k := Nat.mod_lt _ (by omega)
  unfold f_Baskets_passesOver
  simp (disch := first | assumption | omega) only [lf_lt, Option.bind_some, nI_add, pk_mul, oz_sub, oz_addm1, oz_div, oz_mod, oz_ck, oz_nz, oz_le_t, oz_le_f, oz_lt_t, oz_lt_f, oz_eq_t, oz_eq_f, oz_eqm1, oz_m1eq, oz_m1lt, oz_ltm1, oz_lem1, oz_m1le, oz_mx, oz_mn, if_true, if_false, ite_true, ite_false, oz_md_r, oz_md_o, oz_md_w, oz_md_wo, oz_md_2, Sum.elim_inl, Sum.elim_inr, pl_0, pl_1, pl_2, pl_3, pl_4, pl_5, pl_6, pl_7, pl_8, pl_9, pl_10, pl_11, pl_12, pl_13, pl_31, k_6 C hk, k_8 C hk, oz_bit_eq]
  show _ = some ((oz_ob a k).testBit (p % oz_per a k))
  cases (oz_ob a k).testBit (p % oz_per a k) <;> rfl
end
