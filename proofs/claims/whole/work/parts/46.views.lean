/-! ===== the class's other parts; orders, sums, sets ===== -/
def oz_opens (a : Nat → Nat) : Nat := oz_set (fun o => oz_ord a o 2 == 1) (a 6)
def oz_CB (s : lf_S) (q : Nat) (a : Nat → Nat) : Prop := s.1 q 0 = nI (a 3) ∧ ∀ i, i < a 3 → s.1 (q + 1) i = nI (oz_bed a i 0) ∧ s.1 (q + 2) i = nI (oz_bed a i 1) ∧ s.1 (q + 3) i = nI (oz_bed a i 2) ∧ s.1 (q + 4) i = nI (oz_bed a i 3)
def oz_CH (s : lf_S) (q : Nat) (a : Nat → Nat) : Prop := s.1 q 0 = nI (a 5) ∧ ∀ i, i < a 5 → s.1 (q + 1) i = nI (oz_sk a i) ∧ s.1 (q + 2) i = nI (oz_wg a i)
def oz_CO (s : lf_S) (q : Nat) (a : Nat → Nat) : Prop := s.1 q 0 = nI (a 6) ∧ s.1 q 1 = nI (oz_opens a) ∧ ∀ i, i < a 6 → s.1 (q + 1) i = nI (oz_ord a i 0) ∧ s.1 (q + 2) i = nI (oz_ord a i 1)
def oz_CL (s : lf_S) (q : Nat) (a : Nat → Nat) : Prop := s.1 q 0 = nI (a 11) ∧ ∀ g w, g < a 11 → w < 4 → s.1 (q + 1) (4 * (a 11 - 1 - g) + w) = nI (a (126 + (4 * g + w)))
def oz_CS (s : lf_S) (q : Nat) (a : Nat → Nat) : Prop := ∀ f, 1 ≤ f → f ≤ 6 → s.1 q f = nI (oz_sto a f)
def oz_C0 (s : lf_S) (b : Nat) (a : Nat → Nat) : Prop := s.1 b 6 = nI (a 0) ∧ s.1 b 7 = nI (a 7) ∧ s.1 b 8 = nI (a 8) ∧ s.1 b 9 = nI (a 9) ∧ s.1 b 10 = nI (a 12) ∧ s.1 b 11 = nI (a 10)
def oz_C (s : lf_S) (b : Nat) (a : Nat → Nat) : Prop := oz_C0 s b a ∧ oz_CB s (b + 1) a ∧ oz_CK s (b + 6) a ∧ oz_CH s (b + 15) a ∧ oz_CO s (b + 18) a ∧ oz_CL s (b + 21) a ∧ oz_CS s (b + 23) a
section
variable {s : lf_S} {q : Nat} {a : Nat → Nat} {i : Nat}
theorem b_0 (C : oz_CB s q a) : s.1 q 0 = nI (a 3) := C.1
theorem b_1 (C : oz_CB s q a) (h : i < a 3) : s.1 (q + 1) i = nI (oz_bed a i 0) := (C.2 i h).1
theorem b_2 (C : oz_CB s q a) (h : i < a 3) : s.1 (q + 2) i = nI (oz_bed a i 1) := (C.2 i h).2.1
theorem b_3 (C : oz_CB s q a) (h : i < a 3) : s.1 (q + 3) i = nI (oz_bed a i 2) := (C.2 i h).2.2.1
theorem b_4 (C : oz_CB s q a) (h : i < a 3) : s.1 (q + 4) i = nI (oz_bed a i 3) := (C.2 i h).2.2.2
theorem h_0 (C : oz_CH s q a) : s.1 q 0 = nI (a 5) := C.1
theorem h_1 (C : oz_CH s q a) (h : i < a 5) : s.1 (q + 1) i = nI (oz_sk a i) := (C.2 i h).1
theorem h_2 (C : oz_CH s q a) (h : i < a 5) : s.1 (q + 2) i = nI (oz_wg a i) := (C.2 i h).2
theorem o_0 (C : oz_CO s q a) : s.1 q 0 = nI (a 6) := C.1
theorem o_o (C : oz_CO s q a) : s.1 q 1 = nI (oz_opens a) := C.2.1
theorem o_1 (C : oz_CO s q a) (h : i < a 6) : s.1 (q + 1) i = nI (oz_ord a i 0) := (C.2.2 i h).1
theorem o_2 (C : oz_CO s q a) (h : i < a 6) : s.1 (q + 2) i = nI (oz_ord a i 1) := (C.2.2 i h).2
end
def oz_rods (a : Nat → Nat) (o : Nat) : Nat := oz_ord a o 1 * oz_need a (oz_ord a o 0)
def oz_feet (a : Nat → Nat) (o : Nat) : Nat := oz_bas a (oz_ord a o 0) 2
def oz_pays (a : Nat → Nat) (o : Nat) : Nat := oz_ord a o 1 * oz_bas a (oz_ord a o 0) 3
def oz_has (a : Nat → Nat) (o : Nat) : Bool := decide (oz_rods a o ≤ oz_sto a (oz_feet a o))
def oz_opn (a : Nat → Nat) (o : Nat) : Bool := oz_ord a o 2 == 1
section
variable {s : lf_S} {b : Nat} {a : Nat → Nat} {o : Nat}
theorem oz_opens_lt (V : oz_V a) : oz_opens a < 64 := by
  have h0 := oz_v0 V
  unfold oz_V0 at h0
  exact Nat.lt_of_lt_of_le (oz_set_le (m := 6) (by omega)) (by decide)
theorem oz_opens_bit (h : o < a 6) : (oz_opens a).testBit o = oz_opn a o := by
  unfold oz_opens
  rw [oz_set_bit, decide_eq_true h, Bool.true_and]; rfl
theorem oz_rods_le (V : oz_V a) (h : o < a 6) : oz_rods a o ≤ 1080 ∧ oz_pays a o ≤ 891 ∧ 1 ≤ oz_feet a o ∧ oz_feet a o ≤ 6 := by
  have h4 := oz_v4 V h
  unfold oz_V4 at h4
  have h2 := oz_v2 V h4.1
  unfold oz_V2 at h2
  have h3 := oz_need_le V h4.1
  have r1 : oz_ord a o 1 * oz_need a (oz_ord a o 0) ≤ 9 * 120 := Nat.mul_le_mul h4.2.2.1 h3
  have r2 : oz_ord a o 1 * oz_bas a (oz_ord a o 0) 3 ≤ 9 * 99 := Nat.mul_le_mul h4.2.2.1 (by omega)
  unfold oz_rods oz_pays oz_feet
  omega
theorem m_rodsOf (V : oz_V a) (h : o < a 6) : f_Mod_rodsOf (nI o) (oz_md s a) = some (nI (oz_rods a o)) := by
  have h0 := oz_v0 V
  unfold oz_V0 at h0
  have h4 := oz_v4 V h
  unfold oz_V4 at h4
  unfold f_Mod_rodsOf
  simp (disch := first | assumption | omega) only [lf_lt, Option.bind_some, nI_add, pk_mul, oz_sub, oz_addm1, oz_div, oz_mod, oz_ck, oz_nz, oz_le_t, oz_le_f, oz_lt_t, oz_lt_f, oz_eq_t, oz_eq_f, oz_eqm1, oz_m1eq, oz_m1lt, oz_ltm1, oz_lem1, oz_m1le, oz_mx, oz_mn, if_true, if_false, ite_true, ite_false, oz_md_r, oz_md_o, oz_md_w, oz_md_wo, oz_md_2, Sum.elim_inl, Sum.elim_inr, pl_0, pl_1, pl_2, pl_3, pl_4, pl_5, pl_6, pl_7, pl_8, pl_9, pl_10, pl_11, pl_12, pl_13, m_ofOrder, m_needOf V h4.1, oz_rods]
theorem m_feetOf (V : oz_V a) (h : o < a 6) : f_Mod_feetOf (nI o) (oz_md s a) = some (nI (oz_feet a o)) := by
  have h0 := oz_v0 V
  unfold oz_V0 at h0
  have h4 := oz_v4 V h
  unfold oz_V4 at h4
  unfold f_Mod_feetOf
  simp (disch := first | assumption | omega) only [lf_lt, Option.bind_some, nI_add, pk_mul, oz_sub, oz_addm1, oz_div, oz_mod, oz_ck, oz_nz, oz_le_t, oz_le_f, oz_lt_t, oz_lt_f, oz_eq_t, oz_eq_f, oz_eqm1, oz_m1eq, oz_m1lt, oz_ltm1, oz_lem1, oz_m1le, oz_mx, oz_mn, if_true, if_false, ite_true, ite_false, oz_md_r, oz_md_o, oz_md_w, oz_md_wo, oz_md_2, Sum.elim_inl, Sum.elim_inr, pl_0, pl_1, pl_2, pl_3, pl_4, pl_5, pl_6, pl_7, pl_8, pl_9, pl_10, pl_11, pl_12, pl_13, m_ofOrder, m_ofBasket, oz_feet]
theorem m_paysOf (V : oz_V a) (h : o < a 6) : f_Mod_paysOf (nI o) (oz_md s a) = some (nI (oz_pays a o)) := by
  have h0 := oz_v0 V
  unfold oz_V0 at h0
  have h4 := oz_v4 V h
  unfold oz_V4 at h4
  unfold f_Mod_paysOf
  simp (disch := first | assumption | omega) only [lf_lt, Option.bind_some, nI_add, pk_mul, oz_sub, oz_addm1, oz_div, oz_mod, oz_ck, oz_nz, oz_le_t, oz_le_f, oz_lt_t, oz_lt_f, oz_eq_t, oz_eq_f, oz_eqm1, oz_m1eq, oz_m1lt, oz_ltm1, oz_lem1, oz_m1le, oz_mx, oz_mn, if_true, if_false, ite_true, ite_false, oz_md_r, oz_md_o, oz_md_w, oz_md_wo, oz_md_2, Sum.elim_inl, Sum.elim_inr, pl_0, pl_1, pl_2, pl_3, pl_4, pl_5, pl_6, pl_7, pl_8, pl_9, pl_10, pl_11, pl_12, pl_13, m_ofOrder, m_ofBasket, oz_pays]
theorem m_hasRods (V : oz_V a) (h : o < a 6) : f_Mod_hasRods (nI o) (oz_md s a) = some (oz_has a o) := by
  have hr := oz_rods_le V h
  have h5 := oz_v5 V hr.2.2.1 hr.2.2.2
  unfold f_Mod_hasRods
  simp (disch := first | assumption | omega) only [lf_lt, Option.bind_some, nI_add, pk_mul, oz_sub, oz_addm1, oz_div, oz_mod, oz_ck, oz_nz, oz_le_t, oz_le_f, oz_lt_t, oz_lt_f, oz_eq_t, oz_eq_f, oz_eqm1, oz_m1eq, oz_m1lt, oz_ltm1, oz_lem1, oz_m1le, oz_mx, oz_mn, if_true, if_false, ite_true, ite_false, oz_md_r, oz_md_o, oz_md_w, oz_md_wo, oz_md_2, Sum.elim_inl, Sum.elim_inr, pl_0, pl_1, pl_2, pl_3, pl_4, pl_5, pl_6, pl_7, pl_8, pl_9, pl_10, pl_11, pl_12, pl_13, m_feetOf V h, m_rodsOf V h, m_stored, oz_has]
  by_cases c : oz_rods a o ≤ oz_sto a (oz_feet a o)
  · rw [decide_eq_true c, oz_ilt_f c (by omega)]
  · rw [decide_eq_false c, oz_ilt_t (by omega) (by omega)]
theorem m_openOnes (V : oz_V a) : f_Mod_openOnes (oz_md s a) = some (nI (oz_opens a)) := by
  have h0 := oz_v0 V
  unfold oz_V0 at h0
  have key := (oz_forI (N := a 6) (fun i x => x < 2 ^ i) (fun f i (x : Nat) => f_Mod_openOnes_4 f (nI x) (nI i) (oz_md s a)) (fun i x => if oz_opn a i then x ||| 2 ^ i else x) nI 0 (by decide) (by
      intro i x hi hx
      have h3 : 2 ^ i < 2 ^ (i + 1) := Nat.pow_lt_pow_right (by omega) (by omega)
      try dsimp only
      split
      · exact Nat.or_lt_two_pow (by omega) h3
      · omega) (by
      intro f x hx
      simp (disch := first | assumption | omega) only [f_Mod_openOnes_4, lf_lt, Option.bind_some, nI_add, pk_mul, oz_sub, oz_addm1, oz_div, oz_mod, oz_ck, oz_nz, oz_le_t, oz_le_f, oz_lt_t, oz_lt_f, oz_eq_t, oz_eq_f, oz_eqm1, oz_m1eq, oz_m1lt, oz_ltm1, oz_lem1, oz_m1le, oz_mx, oz_mn, if_true, if_false, ite_true, ite_false, oz_md_r, oz_md_o, oz_md_w, oz_md_wo, oz_md_2, Sum.elim_inl, Sum.elim_inr, pl_0, pl_1, pl_2, pl_3, pl_4, pl_5, pl_6, pl_7, pl_8, pl_9, pl_10, pl_11, pl_12, pl_13]) (by
      intro f i x hi hx
      have hp2 := oz_p2 i (by omega)
      have h4 := oz_v4 V hi
      unfold oz_V4 at h4
      unfold oz_opn
      by_cases c : oz_ord a i 2 = 1
      · simp (disch := first | assumption | omega) only [f_Mod_openOnes_4, lf_lt, Option.bind_some, nI_add, pk_mul, oz_sub, oz_addm1, oz_div, oz_mod, oz_ck, oz_nz, oz_le_t, oz_le_f, oz_lt_t, oz_lt_f, oz_eq_t, oz_eq_f, oz_eqm1, oz_m1eq, oz_m1lt, oz_ltm1, oz_lem1, oz_m1le, oz_mx, oz_mn, if_true, if_false, ite_true, ite_false, oz_md_r, oz_md_o, oz_md_w, oz_md_wo, oz_md_2, Sum.elim_inl, Sum.elim_inr, pl_0, pl_1, pl_2, pl_3, pl_4, pl_5, pl_6, pl_7, pl_8, pl_9, pl_10, pl_11, pl_12, pl_13, pl_31, m_ofOrder, c, oz_shl1, oz_bvor, beq_self_eq_true]
      · have c0 : oz_ord a i 2 = 0 := by omega
        simp (disch := first | assumption | omega) only [f_Mod_openOnes_4, lf_lt, Option.bind_some, nI_add, pk_mul, oz_sub, oz_addm1, oz_div, oz_mod, oz_ck, oz_nz, oz_le_t, oz_le_f, oz_lt_t, oz_lt_f, oz_eq_t, oz_eq_f, oz_eqm1, oz_m1eq, oz_m1lt, oz_ltm1, oz_lem1, oz_m1le, oz_mx, oz_mn, if_true, if_false, ite_true, ite_false, oz_md_r, oz_md_o, oz_md_w, oz_md_wo, oz_md_2, Sum.elim_inl, Sum.elim_inr, pl_0, pl_1, pl_2, pl_3, pl_4, pl_5, pl_6, pl_7, pl_8, pl_9, pl_10, pl_11, pl_12, pl_13, pl_31, m_ofOrder, c0]
        rw [oz_shl (by omega) (by omega), Nat.zero_mul, oz_bvor (by omega) (by omega), Nat.or_zero]; rfl) 5000 (by omega)).1
  rw [oz_set_it (P := fun i => oz_opn a i)] at key
  unfold f_Mod_openOnes
  try dsimp only at key
  simp only [lf_lt, pl_0, key, Option.bind_some]; rfl
theorem c_isOpen {q : Nat} (V : oz_V a) (C : oz_CO s q a) (h : o < a 6) : f_Orders_isOpen q (nI o) s = some (oz_opn a o) := by
  have h0 := oz_v0 V
  unfold oz_V0 at h0
  have ho := oz_opens_lt V
  unfold f_Orders_isOpen
  rw [o_o C]
  simp only [pl_1, pl_31, oz_bit_eq (n := oz_opens a) (k := o) (by omega) (by omega), oz_opens_bit h]
  cases oz_opn a o <;> rfl
theorem c_rodsFor (V : oz_V a) (C : oz_C s b a) (h : o < a 6) : f_Holt_rodsFor b (nI o) s = some (nI (oz_rods a o)) := by
  have h0 := oz_v0 V
  unfold oz_V0 at h0
  have h4 := oz_v4 V h
  unfold oz_V4 at h4
  unfold f_Holt_rodsFor
  simp (disch := first | assumption | omega) only [lf_lt, Option.bind_some, nI_add, pk_mul, oz_sub, oz_addm1, oz_div, oz_mod, oz_ck, oz_nz, oz_le_t, oz_le_f, oz_lt_t, oz_lt_f, oz_eq_t, oz_eq_f, oz_eqm1, oz_m1eq, oz_m1lt, oz_ltm1, oz_lem1, oz_m1le, oz_mx, oz_mn, if_true, if_false, ite_true, ite_false, oz_md_r, oz_md_o, oz_md_w, oz_md_wo, oz_md_2, Sum.elim_inl, Sum.elim_inr, pl_0, pl_1, pl_2, pl_3, pl_4, pl_5, pl_6, pl_7, pl_8, pl_9, pl_10, pl_11, pl_12, pl_13, o_1 C.2.2.2.2.1 h, o_2 C.2.2.2.2.1 h, c_needOf V C.2.2.1 h4.1, oz_rods]
theorem c_feetFor (V : oz_V a) (C : oz_C s b a) (h : o < a 6) : f_Holt_feetFor b (nI o) s = some (nI (oz_feet a o)) := by
  have h0 := oz_v0 V
  unfold oz_V0 at h0
  have h4 := oz_v4 V h
  unfold oz_V4 at h4
  unfold f_Holt_feetFor
  simp (disch := first | assumption | omega) only [lf_lt, Option.bind_some, nI_add, pk_mul, oz_sub, oz_addm1, oz_div, oz_mod, oz_ck, oz_nz, oz_le_t, oz_le_f, oz_lt_t, oz_lt_f, oz_eq_t, oz_eq_f, oz_eqm1, oz_m1eq, oz_m1lt, oz_ltm1, oz_lem1, oz_m1le, oz_mx, oz_mn, if_true, if_false, ite_true, ite_false, oz_md_r, oz_md_o, oz_md_w, oz_md_wo, oz_md_2, Sum.elim_inl, Sum.elim_inr, pl_0, pl_1, pl_2, pl_3, pl_4, pl_5, pl_6, pl_7, pl_8, pl_9, pl_10, pl_11, pl_12, pl_13, o_1 C.2.2.2.2.1 h, k_3 C.2.2.1 h4.1, oz_feet]
theorem c_payFor (V : oz_V a) (C : oz_C s b a) (h : o < a 6) : f_Holt_payFor b (nI o) s = some (nI (oz_pays a o)) := by
  have h0 := oz_v0 V
  unfold oz_V0 at h0
  have h4 := oz_v4 V h
  unfold oz_V4 at h4
  unfold f_Holt_payFor
  simp (disch := first | assumption | omega) only [lf_lt, Option.bind_some, nI_add, pk_mul, oz_sub, oz_addm1, oz_div, oz_mod, oz_ck, oz_nz, oz_le_t, oz_le_f, oz_lt_t, oz_lt_f, oz_eq_t, oz_eq_f, oz_eqm1, oz_m1eq, oz_m1lt, oz_ltm1, oz_lem1, oz_m1le, oz_mx, oz_mn, if_true, if_false, ite_true, ite_false, oz_md_r, oz_md_o, oz_md_w, oz_md_wo, oz_md_2, Sum.elim_inl, Sum.elim_inr, pl_0, pl_1, pl_2, pl_3, pl_4, pl_5, pl_6, pl_7, pl_8, pl_9, pl_10, pl_11, pl_12, pl_13, o_1 C.2.2.2.2.1 h, o_2 C.2.2.2.2.1 h, k_4 C.2.2.1 h4.1, oz_pays]
theorem c_canMake (V : oz_V a) (C : oz_C s b a) (h : o < a 6) : f_Holt_canMake b (nI o) s = some (oz_opn a o && oz_has a o) := by
  have hr := oz_rods_le V h
  have h5 := oz_v5 V hr.2.2.1 hr.2.2.2
  unfold f_Holt_canMake
  simp (disch := first | assumption | omega) only [lf_lt, Option.bind_some, nI_add, pk_mul, oz_sub, oz_addm1, oz_div, oz_mod, oz_ck, oz_nz, oz_le_t, oz_le_f, oz_lt_t, oz_lt_f, oz_eq_t, oz_eq_f, oz_eqm1, oz_m1eq, oz_m1lt, oz_ltm1, oz_lem1, oz_m1le, oz_mx, oz_mn, if_true, if_false, ite_true, ite_false, oz_md_r, oz_md_o, oz_md_w, oz_md_wo, oz_md_2, Sum.elim_inl, Sum.elim_inr, pl_0, pl_1, pl_2, pl_3, pl_4, pl_5, pl_6, pl_7, pl_8, pl_9, pl_10, pl_11, pl_12, pl_13, c_isOpen V C.2.2.2.2.1 h]
  cases oz_opn a o with
  | false => rfl
  | true =>
    simp (disch := first | assumption | omega) only [lf_lt, Option.bind_some, nI_add, pk_mul, oz_sub, oz_addm1, oz_div, oz_mod, oz_ck, oz_nz, oz_le_t, oz_le_f, oz_lt_t, oz_lt_f, oz_eq_t, oz_eq_f, oz_eqm1, oz_m1eq, oz_m1lt, oz_ltm1, oz_lem1, oz_m1le, oz_mx, oz_mn, if_true, if_false, ite_true, ite_false, oz_md_r, oz_md_o, oz_md_w, oz_md_wo, oz_md_2, Sum.elim_inl, Sum.elim_inr, pl_0, pl_1, pl_2, pl_3, pl_4, pl_5, pl_6, pl_7, pl_8, pl_9, pl_10, pl_11, pl_12, pl_13, c_feetFor V C h, c_rodsFor V C h, C.2.2.2.2.2.2 (oz_feet a o) hr.2.2.1 hr.2.2.2, oz_has, Bool.true_and]
    by_cases c : oz_rods a o ≤ oz_sto a (oz_feet a o)
    · rw [decide_eq_true c, oz_ilt_f c (by omega)]
    · rw [decide_eq_false c, oz_ilt_t (by omega) (by omega)]
theorem c_canMakeBits (V : oz_V a) (C : oz_C s b a) : f_Holt_canMakeBits b s = some (nI (oz_set (fun o => oz_opn a o && oz_has a o) (a 6))) := by
  have h0 := oz_v0 V
  unfold oz_V0 at h0
  have key := (oz_forI (N := a 6) (fun i x => x < 2 ^ i) (fun f i (x : Nat) => f_Holt_canMakeBits_4 b f (nI x) (nI i) s) (fun i x => if (oz_opn a i && oz_has a i) then x ||| 2 ^ i else x) nI 0 (by decide) (by
      intro i x hi hx
      have h3 : 2 ^ i < 2 ^ (i + 1) := Nat.pow_lt_pow_right (by omega) (by omega)
      try dsimp only
      split
      · exact Nat.or_lt_two_pow (by omega) h3
      · omega) (by
      intro f x hx
      simp (disch := first | assumption | omega) only [f_Holt_canMakeBits_4, lf_lt, Option.bind_some, nI_add, pk_mul, oz_sub, oz_addm1, oz_div, oz_mod, oz_ck, oz_nz, oz_le_t, oz_le_f, oz_lt_t, oz_lt_f, oz_eq_t, oz_eq_f, oz_eqm1, oz_m1eq, oz_m1lt, oz_ltm1, oz_lem1, oz_m1le, oz_mx, oz_mn, if_true, if_false, ite_true, ite_false, oz_md_r, oz_md_o, oz_md_w, oz_md_wo, oz_md_2, Sum.elim_inl, Sum.elim_inr, pl_0, pl_1, pl_2, pl_3, pl_4, pl_5, pl_6, pl_7, pl_8, pl_9, pl_10, pl_11, pl_12, pl_13, o_0 C.2.2.2.2.1]) (by
      intro f i x hi hx
      have hp2 := oz_p2 i (by omega)
      simp (disch := first | assumption | omega) only [f_Holt_canMakeBits_4, lf_lt, Option.bind_some, nI_add, pk_mul, oz_sub, oz_addm1, oz_div, oz_mod, oz_ck, oz_nz, oz_le_t, oz_le_f, oz_lt_t, oz_lt_f, oz_eq_t, oz_eq_f, oz_eqm1, oz_m1eq, oz_m1lt, oz_ltm1, oz_lem1, oz_m1le, oz_mx, oz_mn, if_true, if_false, ite_true, ite_false, oz_md_r, oz_md_o, oz_md_w, oz_md_wo, oz_md_2, Sum.elim_inl, Sum.elim_inr, pl_0, pl_1, pl_2, pl_3, pl_4, pl_5, pl_6, pl_7, pl_8, pl_9, pl_10, pl_11, pl_12, pl_13, pl_31, o_0 C.2.2.2.2.1, c_canMake V C hi, oz_shl1, oz_bvor]
      cases (oz_opn a i && oz_has a i) <;> rfl) 5000 (by omega)).1
  rw [oz_set_it (P := fun i => oz_opn a i && oz_has a i)] at key
  unfold f_Holt_canMakeBits
  try dsimp only at key
  simp only [lf_lt, pl_0, key, Option.bind_some]
theorem m_stoolsOfAll (V : oz_V a) : f_Mod_stoolsOfAll (oz_md s a) = some (nI (oz_sum (fun i => oz_bed a i 2) (a 3))) := by
  have h0 := oz_v0 V
  unfold oz_V0 at h0
  have key := oz_for (N := a 3) (fun f i (x : Nat) => f_Mod_stoolsOfAll_4 f (nI x) (nI i) (oz_md s a)) (fun i x => x + oz_bed a i 2) nI 0 (by
      intro f x
      simp (disch := first | assumption | omega) only [f_Mod_stoolsOfAll_4, lf_lt, Option.bind_some, nI_add, pk_mul, oz_sub, oz_addm1, oz_div, oz_mod, oz_ck, oz_nz, oz_le_t, oz_le_f, oz_lt_t, oz_lt_f, oz_eq_t, oz_eq_f, oz_eqm1, oz_m1eq, oz_m1lt, oz_ltm1, oz_lem1, oz_m1le, oz_mx, oz_mn, if_true, if_false, ite_true, ite_false, oz_md_r, oz_md_o, oz_md_w, oz_md_wo, oz_md_2, Sum.elim_inl, Sum.elim_inr, pl_0, pl_1, pl_2, pl_3, pl_4, pl_5, pl_6, pl_7, pl_8, pl_9, pl_10, pl_11, pl_12, pl_13]) (by
      intro f i x hi
      simp (disch := first | assumption | omega) only [f_Mod_stoolsOfAll_4, lf_lt, Option.bind_some, nI_add, pk_mul, oz_sub, oz_addm1, oz_div, oz_mod, oz_ck, oz_nz, oz_le_t, oz_le_f, oz_lt_t, oz_lt_f, oz_eq_t, oz_eq_f, oz_eqm1, oz_m1eq, oz_m1lt, oz_ltm1, oz_lem1, oz_m1le, oz_mx, oz_mn, if_true, if_false, ite_true, ite_false, oz_md_r, oz_md_o, oz_md_w, oz_md_wo, oz_md_2, Sum.elim_inl, Sum.elim_inr, pl_0, pl_1, pl_2, pl_3, pl_4, pl_5, pl_6, pl_7, pl_8, pl_9, pl_10, pl_11, pl_12, pl_13, m_ofBed]) 5000 (by omega)
  rw [oz_it_sum (f := fun i => oz_bed a i 2)] at key
  unfold f_Mod_stoolsOfAll
  try dsimp only at key
  simp only [lf_lt, pl_0, key, Option.bind_some]
theorem c_partOf {q : Nat} (V : oz_V a) (C : oz_CB s q a) {i : Nat} (h : i < a 3) : f_Beds_partOf q (nI i) s = some (nI (100 * oz_bed a i 2 / oz_sum (fun i => oz_bed a i 2) (a 3))) := by
  have h0 := oz_v0 V
  unfold oz_V0 at h0
  have h1 := oz_v1 V h
  unfold oz_V1 at h1
  have hs : oz_sum (fun i => oz_bed a i 2) (a 3) ≤ a 3 * 99 := oz_sum_le (fun i hi => (oz_v1 V hi).2.2.2.1)
  have hs1 : oz_sum (fun i => oz_bed a i 2) (i + 1) ≤ oz_sum (fun i => oz_bed a i 2) (a 3) := oz_sum_mono (by omega)
  have hs2 : oz_sum (fun i => oz_bed a i 2) (i + 1) = oz_sum (fun i => oz_bed a i 2) i + oz_bed a i 2 := rfl
  have key := oz_for (N := a 3) (fun f i' (x : Nat) => f_Beds_partOf_4 q (nI i) f (nI x) (nI i') s) (fun i x => x + oz_bed a i 2) nI 0 (by
      intro f x
      simp (disch := first | assumption | omega) only [f_Beds_partOf_4, lf_lt, Option.bind_some, nI_add, pk_mul, oz_sub, oz_addm1, oz_div, oz_mod, oz_ck, oz_nz, oz_le_t, oz_le_f, oz_lt_t, oz_lt_f, oz_eq_t, oz_eq_f, oz_eqm1, oz_m1eq, oz_m1lt, oz_ltm1, oz_lem1, oz_m1le, oz_mx, oz_mn, if_true, if_false, ite_true, ite_false, oz_md_r, oz_md_o, oz_md_w, oz_md_wo, oz_md_2, Sum.elim_inl, Sum.elim_inr, pl_0, pl_1, pl_2, pl_3, pl_4, pl_5, pl_6, pl_7, pl_8, pl_9, pl_10, pl_11, pl_12, pl_13, b_0 C]) (by
      intro f i x hi
      simp (disch := first | assumption | omega) only [f_Beds_partOf_4, lf_lt, Option.bind_some, nI_add, pk_mul, oz_sub, oz_addm1, oz_div, oz_mod, oz_ck, oz_nz, oz_le_t, oz_le_f, oz_lt_t, oz_lt_f, oz_eq_t, oz_eq_f, oz_eqm1, oz_m1eq, oz_m1lt, oz_ltm1, oz_lem1, oz_m1le, oz_mx, oz_mn, if_true, if_false, ite_true, ite_false, oz_md_r, oz_md_o, oz_md_w, oz_md_wo, oz_md_2, Sum.elim_inl, Sum.elim_inr, pl_0, pl_1, pl_2, pl_3, pl_4, pl_5, pl_6, pl_7, pl_8, pl_9, pl_10, pl_11, pl_12, pl_13, b_0 C, b_3 C hi]) 5000 (by omega)
  rw [oz_it_sum (f := fun i => oz_bed a i 2)] at key
  unfold f_Beds_partOf
  try dsimp only at key
  simp (disch := first | assumption | omega) only [lf_lt, Option.bind_some, nI_add, pk_mul, oz_sub, oz_addm1, oz_div, oz_mod, oz_ck, oz_nz, oz_le_t, oz_le_f, oz_lt_t, oz_lt_f, oz_eq_t, oz_eq_f, oz_eqm1, oz_m1eq, oz_m1lt, oz_ltm1, oz_lem1, oz_m1le, oz_mx, oz_mn, if_true, if_false, ite_true, ite_false, oz_md_r, oz_md_o, oz_md_w, oz_md_wo, oz_md_2, Sum.elim_inl, Sum.elim_inr, pl_0, pl_1, pl_2, pl_3, pl_4, pl_5, pl_6, pl_7, pl_8, pl_9, pl_10, pl_11, pl_12, pl_13, pl_14, pl_15, pl_16, pl_17, pl_18, pl_19, pl_20, pl_21, pl_22, pl_23, pl_24, pl_25, pl_26, pl_27, pl_28, pl_29, pl_30, pl_31, pl_32, pl_33, pl_34, pl_35, pl_36, pl_37, pl_38, pl_39, pl_40, pl_41, pl_42, pl_43, pl_44, pl_45, pl_46, pl_47, pl_48, pl_49, pl_50, pl_51, pl_52, pl_53, pl_54, pl_55, pl_56, pl_57, pl_58, pl_59, pl_60, pl_61, pl_62, pl_63, pl_64, pl_65, pl_66, pl_67, pl_68, pl_69, pl_70, pl_71, pl_72, pl_73, pl_74, pl_75, pl_76, pl_77, pl_78, pl_79, pl_80, pl_81, pl_82, pl_83, pl_84, pl_85, pl_86, pl_87, pl_88, pl_89, pl_90, pl_91, pl_92, pl_93, pl_94, pl_95, pl_96, pl_97, pl_98, pl_99, pl_100, pl_101, pl_102, pl_103, pl_104, pl_105, pl_106, pl_107, pl_108, pl_109, pl_110, pl_111, pl_112, pl_113, pl_114, pl_115, pl_116, pl_117, pl_118, pl_119, pl_120, pl_121, pl_122, pl_123, pl_124, pl_125, pl_126, pl_127, pl_128, pl_129, pl_130, pl_131, pl_236, pl_239, pl_240, pl_255, pl_366, pl_384, pl_400, pl_450, pl_766, pl_999, pl_1000, pl_1001, pl_1002, pl_1003, pl_1004, pl_1005, pl_1006, pl_1007, pl_1008, pl_1009, pl_1010, pl_1011, pl_1012, pl_1013, pl_1014, pl_1015, pl_4026, pl_4392, pl_9999, pl_10000, pl_12345, pl_32767, pl_2000000000, pl_1431655765, pl_858993459, pl_252645135, pl_1103515245, key, b_3 C h]
theorem m_partOf (V : oz_V a) {i : Nat} (h : i < a 3) : (f_Mod_ofBed (nI i) (nI 2) (oz_md s a)).bind (fun p => (f_Mod_stoolsOfAll (oz_md s a)).bind (fun p2 => lf_nz p2 (some ((nI 100 * p) / p2)))) = some (nI (100 * oz_bed a i 2 / oz_sum (fun i => oz_bed a i 2) (a 3))) := by
  have h0 := oz_v0 V
  unfold oz_V0 at h0
  have h1 := oz_v1 V h
  unfold oz_V1 at h1
  have hs : oz_sum (fun i => oz_bed a i 2) (a 3) ≤ a 3 * 99 := oz_sum_le (fun i hi => (oz_v1 V hi).2.2.2.1)
  have hs1 : oz_sum (fun i => oz_bed a i 2) (i + 1) ≤ oz_sum (fun i => oz_bed a i 2) (a 3) := oz_sum_mono (by omega)
  have hs2 : oz_sum (fun i => oz_bed a i 2) (i + 1) = oz_sum (fun i => oz_bed a i 2) i + oz_bed a i 2 := rfl
  simp (disch := first | assumption | omega) only [lf_lt, Option.bind_some, nI_add, pk_mul, oz_sub, oz_addm1, oz_div, oz_mod, oz_ck, oz_nz, oz_le_t, oz_le_f, oz_lt_t, oz_lt_f, oz_eq_t, oz_eq_f, oz_eqm1, oz_m1eq, oz_m1lt, oz_ltm1, oz_lem1, oz_m1le, oz_mx, oz_mn, if_true, if_false, ite_true, ite_false, oz_md_r, oz_md_o, oz_md_w, oz_md_wo, oz_md_2, Sum.elim_inl, Sum.elim_inr, pl_0, pl_1, pl_2, pl_3, pl_4, pl_5, pl_6, pl_7, pl_8, pl_9, pl_10, pl_11, pl_12, pl_13, m_ofBed, m_stoolsOfAll V]
end
