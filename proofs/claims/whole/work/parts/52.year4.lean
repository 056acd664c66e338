/-! ===== a year whole ===== -/
theorem oz_up_up {a : Nat → Nat} {k u v : Nat} : oz_up (oz_up a k u) k v = oz_up a k v := by
  funext j
  unfold oz_up
  split <;> rfl
theorem oz_ww {s : lf_S} {b k : Nat} {u v : Int32} : lf_w (lf_w s b k u) b k v = lf_w s b k v := by
  refine oz_S_ext (fun p => ?_) rfl
  by_cases h : p = b
  · subst h
    funext j
    by_cases c : j = k
    · subst c; rw [oz_w_s, oz_w_s]
    · rw [oz_w_n c, oz_w_n c, oz_w_n c]
  · rw [oz_w_o h, oz_w_o h, oz_w_o h]
theorem oz_w_id {s : lf_S} {b k : Nat} {v : Int32} (h : s.1 b k = v) : lf_w s b k v = s := by
  refine oz_S_ext (fun p => ?_) rfl
  by_cases c : p = b
  · subst c
    funext j
    by_cases c : j = k
    · subst c; rw [oz_w_s, h]
    · rw [oz_w_n c]
  · rw [oz_w_o c]
theorem oz_C_num {s : lf_S} {b : Nat} {a : Nat → Nat} (V : oz_V a) (C : oz_C s b a) {k i v : Nat} (h : (k = 7 ∧ i = 7) ∨ (k = 8 ∧ i = 8) ∨ (k = 9 ∧ i = 9) ∨ (k = 10 ∧ i = 12) ∨ (k = 11 ∧ i = 10) ∨ (k = 6 ∧ i = 0)) : oz_C (lf_w s b k (nI v)) b (oz_up a i v) := by
  obtain ⟨C0, CB, CK, CH, CO, CL, CS⟩ := C
  have f : ∀ p, p ≠ b → (lf_w s b k (nI v)).1 p = s.1 p := fun p hp => oz_w_o hp
  exact ⟨oz_C0_w C0 h, oz_CB_cg V CB (fun p h1 h2 => f p (by omega)) (oz_up_n (by omega)) (oz_eqr_up oz_eqr_rf (by omega)), oz_CK_cg V CK (fun p h1 h2 => f p (by omega)) (oz_up_n (by omega)) (oz_eqr_up oz_eqr_rf (by omega)), oz_CH_cg V CH (fun p h1 h2 => f p (by omega)) (oz_up_n (by omega)) (oz_eqr_up oz_eqr_rf (by omega)), oz_CO_cg V CO (fun p h1 h2 => f p (by omega)) (oz_up_n (by omega)) (oz_eqr_up oz_eqr_rf (by omega)), oz_CL_cg V CL (fun p h1 h2 => f p (by omega)) (oz_up_n (by omega)) (oz_eqr_up oz_eqr_rf (by omega)), oz_CS_cg CS (f (b + 23) (by omega)) (oz_eqr_up oz_eqr_rf (by omega))⟩
def oz_payt (a : Nat → Nat) (h : Nat) (x : Nat × Nat) : Nat × Nat := if x.2 < oz_wg a h then x else (x.1 + oz_sk a h, x.2 - oz_wg a h)
def oz_pd (a : Nat → Nat) : Nat × Nat := oz_it (oz_payt a) (a 5) (0, a 8)
def oz_ordt (able o : Nat) (x : Nat × (Nat → Nat)) : Nat × (Nat → Nat) := if oz_opn x.2 o = true ∧ oz_ord x.2 o 1 ≤ able ∧ oz_has x.2 o = true then (x.1 + 1, oz_mk x.2 o 1) else x
def oz_od (a : Nat → Nat) (able n : Nat) : Nat × (Nat → Nat) := oz_it (oz_ordt able) n (0, a)
def oz_yr2 (a : Nat → Nat) : Nat × (Nat → Nat) := ((oz_od (oz_up (oz_ages a (a 3)) 8 (oz_pd (oz_ages a (a 3))).2) (oz_pd (oz_ages a (a 3))).1 (a 6)).1,
  oz_up (oz_od (oz_up (oz_ages a (a 3)) 8 (oz_pd (oz_ages a (a 3))).2) (oz_pd (oz_ages a (a 3))).1 (a 6)).2 9 (min 9999 (a 9 + 1)))
def oz_sd (x : Nat) : Nat := (1103515245 * x + 12345) % 4294967296
def oz_dr (x : Nat) : Nat := x / 65536 % 32768
def oz_wetd (a : Nat → Nat) : Nat → Nat := oz_up (oz_up a 12 (oz_sd (a 12))) 10 (if oz_dr (oz_sd (a 12)) % 100 < a 7 then 1 else 0)
section
variable {s : lf_S} {a : Nat → Nat} {b : Nat}
theorem oz_pd_le (V : oz_V a) : ∀ n, n ≤ a 5 → (oz_it (oz_payt a) n (0, a 8)).1 ≤ n * 9 ∧ (oz_it (oz_payt a) n (0, a 8)).2 ≤ 9999 := by
  have h0 := oz_v0 V
  unfold oz_V0 at h0
  intro n
  induction n with
  | zero => intro _; exact ⟨Nat.zero_le _, by show a 8 ≤ 9999; omega⟩
  | succ n ih =>
    intro hn
    obtain ⟨i1, i2⟩ := ih (by omega)
    have h3 := oz_v3 V (show n < a 5 by omega)
    unfold oz_V3 at h3
    show (oz_payt a n (oz_it (oz_payt a) n (0, a 8))).1 ≤ (n + 1) * 9 ∧ (oz_payt a n (oz_it (oz_payt a) n (0, a 8))).2 ≤ 9999
    generalize oz_it (oz_payt a) n (0, a 8) = x at *
    unfold oz_payt
    split
    · exact ⟨by omega, i2⟩
    · exact ⟨by show _ + _ ≤ _; omega, by show _ - _ ≤ _; omega⟩
theorem m_pay (V : oz_V a) : f_Mod_passes_59 5000 (nI 0) (nI 0) (oz_md s a) = some (nI (oz_pd a).1, oz_md s (oz_up a 8 (oz_pd a).2)) := by
  have h0 := oz_v0 V
  unfold oz_V0 at h0
  have key := (oz_forI (N := a 5) (fun i x => x.1 ≤ i * 9 ∧ x.2 ≤ 9999) (fun f i (x : Nat × Nat) => f_Mod_passes_59 f (nI x.1) (nI i) (oz_md s (oz_up a 8 x.2))) (oz_payt a) (fun x => (nI x.1, oz_md s (oz_up a 8 x.2))) (0, a 8) ⟨Nat.zero_le _, by show a 8 ≤ 9999; omega⟩ (by
      intro i x hi hx
      have h3 := oz_v3 V hi
      unfold oz_V3 at h3
      unfold oz_payt
      split
      · exact ⟨by omega, hx.2⟩
      · exact ⟨by show _ + _ ≤ _; omega, by show _ - _ ≤ _; omega⟩) (by
      intro f x hx
      have e5 : oz_up a 8 x.2 5 = a 5 := oz_up_n (by omega)
      simp (disch := first | assumption | omega) only [f_Mod_passes_59, lf_lt, Option.bind_some, nI_add, pk_mul, oz_sub, oz_addm1, oz_div, oz_mod, oz_ck, oz_nz, oz_le_t, oz_le_f, oz_lt_t, oz_lt_f, oz_eq_t, oz_eq_f, oz_eqm1, oz_m1eq, oz_neg1, oz_m1lt, oz_ltm1, oz_lem1, oz_m1le, oz_mx, oz_mn, if_true, if_false, ite_true, ite_false, oz_md_r, oz_md_o, oz_md_w, oz_md_wo, oz_md_2, Sum.elim_inl, Sum.elim_inr, pl_0, pl_1, pl_2, pl_3, pl_4, pl_5, pl_6, pl_7, pl_8, pl_9, pl_10, pl_11, pl_12, pl_13, e5]) (by
      intro f i x hi hx
      have h3 := oz_v3 V hi
      unfold oz_V3 at h3
      have e5 : oz_up a 8 x.2 5 = a 5 := oz_up_n (by omega)
      have e1 : oz_wg (oz_up a 8 x.2) i = oz_wg a i := oz_up_n (by omega)
      have e2 : ∀ v, oz_sk (oz_up a 8 v) i = oz_sk a i := fun v => oz_up_n (by omega)
      unfold oz_payt
      by_cases c : x.2 < oz_wg a i
      · rw [if_pos c]
        simp (disch := first | assumption | omega) only [f_Mod_passes_59, lf_lt, Option.bind_some, nI_add, pk_mul, oz_sub, oz_addm1, oz_div, oz_mod, oz_ck, oz_nz, oz_le_t, oz_le_f, oz_lt_t, oz_lt_f, oz_eq_t, oz_eq_f, oz_eqm1, oz_m1eq, oz_neg1, oz_m1lt, oz_ltm1, oz_lem1, oz_m1le, oz_mx, oz_mn, if_true, if_false, ite_true, ite_false, oz_md_r, oz_md_o, oz_md_w, oz_md_wo, oz_md_2, Sum.elim_inl, Sum.elim_inr, pl_0, pl_1, pl_2, pl_3, pl_4, pl_5, pl_6, pl_7, pl_8, pl_9, pl_10, pl_11, pl_12, pl_13, e5, m_wage, oz_up_s, e1]
      · rw [if_neg c]
        simp (disch := first | assumption | omega) only [f_Mod_passes_59, lf_lt, Option.bind_some, nI_add, pk_mul, oz_sub, oz_addm1, oz_div, oz_mod, oz_ck, oz_nz, oz_le_t, oz_le_f, oz_lt_t, oz_lt_f, oz_eq_t, oz_eq_f, oz_eqm1, oz_m1eq, oz_neg1, oz_m1lt, oz_ltm1, oz_lem1, oz_m1le, oz_mx, oz_mn, if_true, if_false, ite_true, ite_false, oz_md_r, oz_md_o, oz_md_w, oz_md_wo, oz_md_2, Sum.elim_inl, Sum.elim_inr, pl_0, pl_1, pl_2, pl_3, pl_4, pl_5, pl_6, pl_7, pl_8, pl_9, pl_10, pl_11, pl_12, pl_13, e5, m_wage, oz_up_s, e1, oz_up_up, m_skill, e2]) 5000 (by omega)).1
  try dsimp only at key
  rw [oz_up_id (k := 8) (v := a 8) rfl] at key
  exact key
theorem c_pay (V : oz_V a) (C : oz_C s b a) : f_Holt_payHands b s = some (nI (oz_pd a).1, lf_w s b 8 (nI (oz_pd a).2)) := by
  have h0 := oz_v0 V
  unfold oz_V0 at h0
  have key := (oz_forI (N := a 5) (fun i x => x.1 ≤ i * 9 ∧ x.2 ≤ 9999) (fun f i (x : Nat × Nat) => f_Holt_payHands_4 b f (nI x.1) (nI i) (lf_w s b 8 (nI x.2))) (oz_payt a) (fun x => (nI x.1, lf_w s b 8 (nI x.2))) (0, a 8) ⟨Nat.zero_le _, by show a 8 ≤ 9999; omega⟩ (by
      intro i x hi hx
      have h3 := oz_v3 V hi
      unfold oz_V3 at h3
      unfold oz_payt
      split
      · exact ⟨by omega, hx.2⟩
      · exact ⟨by show _ + _ ≤ _; omega, by show _ - _ ≤ _; omega⟩) (by
      intro f x hx
      have e0 : (lf_w s b 8 (nI x.2)).1 (b + 15) = s.1 (b + 15) := oz_w_o (by omega)
      simp (disch := first | assumption | omega) only [f_Holt_payHands_4, lf_lt, Option.bind_some, nI_add, pk_mul, oz_sub, oz_addm1, oz_div, oz_mod, oz_ck, oz_nz, oz_le_t, oz_le_f, oz_lt_t, oz_lt_f, oz_eq_t, oz_eq_f, oz_eqm1, oz_m1eq, oz_neg1, oz_m1lt, oz_ltm1, oz_lem1, oz_m1le, oz_mx, oz_mn, if_true, if_false, ite_true, ite_false, oz_md_r, oz_md_o, oz_md_w, oz_md_wo, oz_md_2, Sum.elim_inl, Sum.elim_inr, pl_0, pl_1, pl_2, pl_3, pl_4, pl_5, pl_6, pl_7, pl_8, pl_9, pl_10, pl_11, pl_12, pl_13, e0, h_0 (oz_C_H C)]) (by
      intro f i x hi hx
      have h3 := oz_v3 V hi
      unfold oz_V3 at h3
      have e0 : ∀ v, (lf_w s b 8 v).1 (b + 15) = s.1 (b + 15) := fun v => oz_w_o (by omega)
      have e1 : ∀ v, (lf_w s b 8 v).1 (b + 15 + 1) = s.1 (b + 15 + 1) := fun v => oz_w_o (by omega)
      have e2 : ∀ v, (lf_w s b 8 v).1 (b + 15 + 2) = s.1 (b + 15 + 2) := fun v => oz_w_o (by omega)
      unfold oz_payt
      by_cases c : x.2 < oz_wg a i
      · rw [if_pos c]
        simp (disch := first | assumption | omega) only [f_Holt_payHands_4, lf_lt, Option.bind_some, nI_add, pk_mul, oz_sub, oz_addm1, oz_div, oz_mod, oz_ck, oz_nz, oz_le_t, oz_le_f, oz_lt_t, oz_lt_f, oz_eq_t, oz_eq_f, oz_eqm1, oz_m1eq, oz_neg1, oz_m1lt, oz_ltm1, oz_lem1, oz_m1le, oz_mx, oz_mn, if_true, if_false, ite_true, ite_false, oz_md_r, oz_md_o, oz_md_w, oz_md_wo, oz_md_2, Sum.elim_inl, Sum.elim_inr, pl_0, pl_1, pl_2, pl_3, pl_4, pl_5, pl_6, pl_7, pl_8, pl_9, pl_10, pl_11, pl_12, pl_13, e0, e1, e2, h_0 (oz_C_H C), h_1 (oz_C_H C) hi, h_2 (oz_C_H C) hi, oz_w_s]
      · rw [if_neg c]
        simp (disch := first | assumption | omega) only [f_Holt_payHands_4, lf_lt, Option.bind_some, nI_add, pk_mul, oz_sub, oz_addm1, oz_div, oz_mod, oz_ck, oz_nz, oz_le_t, oz_le_f, oz_lt_t, oz_lt_f, oz_eq_t, oz_eq_f, oz_eqm1, oz_m1eq, oz_neg1, oz_m1lt, oz_ltm1, oz_lem1, oz_m1le, oz_mx, oz_mn, if_true, if_false, ite_true, ite_false, oz_md_r, oz_md_o, oz_md_w, oz_md_wo, oz_md_2, Sum.elim_inl, Sum.elim_inr, pl_0, pl_1, pl_2, pl_3, pl_4, pl_5, pl_6, pl_7, pl_8, pl_9, pl_10, pl_11, pl_12, pl_13, e0, e1, e2, h_0 (oz_C_H C), h_1 (oz_C_H C) hi, h_2 (oz_C_H C) hi, oz_w_s, oz_ww]) 5000 (by omega)).1
  try dsimp only at key
  rw [oz_w_id (oz_C0_8 (oz_C_0 C))] at key
  unfold f_Holt_payHands
  simp only [lf_lt, pl_0, key, Option.bind_some]; rfl
theorem oz_od_V (V : oz_V a) {able : Nat} : ∀ n, n ≤ a 6 → oz_V (oz_od a able n).2 ∧ (oz_od a able n).1 ≤ n ∧ oz_eqr 0 8 a (oz_od a able n).2 ∧ (oz_od a able n).2 9 = a 9 := by
  have h0 := oz_v0 V
  unfold oz_V0 at h0
  intro n
  induction n with
  | zero => intro _; exact ⟨V, Nat.le_refl _, oz_eqr_rf, rfl⟩
  | succ n ih =>
    intro hn
    obtain ⟨i1, i2, i3, i4⟩ := ih (by omega)
    have e6 := i3 6 (by omega) (by omega)
    have ho : n < (oz_od a able n).2 6 := by omega
    show oz_V (oz_ordt able n (oz_od a able n)).2 ∧ (oz_ordt able n (oz_od a able n)).1 ≤ n + 1 ∧ oz_eqr 0 8 a (oz_ordt able n (oz_od a able n)).2 ∧ (oz_ordt able n (oz_od a able n)).2 9 = a 9
    have hr := oz_rods_le i1 ho
    unfold oz_ordt
    split
    · refine ⟨(oz_mk_V i1 ho (by omega)).2.2.2, by show _ + 1 ≤ _; omega, oz_eqr_tr i3 (oz_mk_eqr (by omega) hr.2.2 (by omega)), ?_⟩
      exact ((oz_mk_eqr (w := 1) (lo := 9) (hi := 11) (by omega) hr.2.2 (by omega)) 9 (by omega) (by omega)).trans i4
    · exact ⟨i1, by omega, i3, i4⟩
theorem m_ords (V : oz_V a) {able : Nat} (hab : able ≤ 45) : f_Mod_passes_121 (nI able) 5000 (nI 0) (nI 0) (oz_md s a) = some (nI (oz_od a able (a 6)).1, oz_md s (oz_od a able (a 6)).2) := by
  have h0 := oz_v0 V
  unfold oz_V0 at h0
  obtain ⟨y, k1, k2⟩ := oz_forE (N := a 6) (fun i (x : Nat × (Nat → Nat)) => x = oz_od a able i) (fun f i x => f_Mod_passes_121 (nI able) f (nI x.1) (nI i) (oz_md s x.2)) (fun x => (nI x.1, oz_md s x.2)) (by
      intro f x hx
      subst hx
      have e6 := (oz_od_V V (able := able) (a 6) (Nat.le_refl _)).2.2.1 6 (by omega) (by omega)
      simp (disch := first | assumption | omega) only [f_Mod_passes_121, lf_lt, Option.bind_some, nI_add, pk_mul, oz_sub, oz_addm1, oz_div, oz_mod, oz_ck, oz_nz, oz_le_t, oz_le_f, oz_lt_t, oz_lt_f, oz_eq_t, oz_eq_f, oz_eqm1, oz_m1eq, oz_neg1, oz_m1lt, oz_ltm1, oz_lem1, oz_m1le, oz_mx, oz_mn, if_true, if_false, ite_true, ite_false, oz_md_r, oz_md_o, oz_md_w, oz_md_wo, oz_md_2, Sum.elim_inl, Sum.elim_inr, pl_0, pl_1, pl_2, pl_3, pl_4, pl_5, pl_6, pl_7, pl_8, pl_9, pl_10, pl_11, pl_12, pl_13, e6]) (by
      intro f i x hi hx
      subst hx
      obtain ⟨v1, v2, v3, v4⟩ := oz_od_V V (able := able) i (by omega)
      have e6 := v3 6 (by omega) (by omega)
      have ho : i < (oz_od a able i).2 6 := by omega
      refine ⟨oz_ordt able i (oz_od a able i), rfl, ?_⟩
      generalize oz_od a able i = x at *
      have h4 := oz_v4 v1 ho
      unfold oz_V4 at h4
      unfold oz_ordt oz_opn
      by_cases c1 : oz_ord x.2 i 2 = 1
      · by_cases c2 : oz_ord x.2 i 1 ≤ able
        · cases c3 : oz_has x.2 i with
          | true =>
            rw [if_pos ⟨by rw [c1]; rfl, c2, rfl⟩]
            simp (disch := first | assumption | omega) only [f_Mod_passes_121, lf_lt, Option.bind_some, nI_add, pk_mul, oz_sub, oz_addm1, oz_div, oz_mod, oz_ck, oz_nz, oz_le_t, oz_le_f, oz_lt_t, oz_lt_f, oz_eq_t, oz_eq_f, oz_eqm1, oz_m1eq, oz_neg1, oz_m1lt, oz_ltm1, oz_lem1, oz_m1le, oz_mx, oz_mn, if_true, if_false, ite_true, ite_false, oz_md_r, oz_md_o, oz_md_w, oz_md_wo, oz_md_2, Sum.elim_inl, Sum.elim_inr, pl_0, pl_1, pl_2, pl_3, pl_4, pl_5, pl_6, pl_7, pl_8, pl_9, pl_10, pl_11, pl_12, pl_13, e6, m_ofOrder, c1, m_hasRods v1 ho, c3, m_makes v1 ho (w := 1) (by omega) c3]
          | false =>
            rw [if_neg (fun z => by cases z.2.2)]
            simp (disch := first | assumption | omega) only [f_Mod_passes_121, lf_lt, Option.bind_some, nI_add, pk_mul, oz_sub, oz_addm1, oz_div, oz_mod, oz_ck, oz_nz, oz_le_t, oz_le_f, oz_lt_t, oz_lt_f, oz_eq_t, oz_eq_f, oz_eqm1, oz_m1eq, oz_neg1, oz_m1lt, oz_ltm1, oz_lem1, oz_m1le, oz_mx, oz_mn, if_true, if_false, ite_true, ite_false, oz_md_r, oz_md_o, oz_md_w, oz_md_wo, oz_md_2, Sum.elim_inl, Sum.elim_inr, pl_0, pl_1, pl_2, pl_3, pl_4, pl_5, pl_6, pl_7, pl_8, pl_9, pl_10, pl_11, pl_12, pl_13, e6, m_ofOrder, c1, m_hasRods v1 ho, c3]
            rfl
        · rw [if_neg (fun z => c2 z.2.1)]
          simp (disch := first | assumption | omega) only [f_Mod_passes_121, lf_lt, Option.bind_some, nI_add, pk_mul, oz_sub, oz_addm1, oz_div, oz_mod, oz_ck, oz_nz, oz_le_t, oz_le_f, oz_lt_t, oz_lt_f, oz_eq_t, oz_eq_f, oz_eqm1, oz_m1eq, oz_neg1, oz_m1lt, oz_ltm1, oz_lem1, oz_m1le, oz_mx, oz_mn, if_true, if_false, ite_true, ite_false, oz_md_r, oz_md_o, oz_md_w, oz_md_wo, oz_md_2, Sum.elim_inl, Sum.elim_inr, pl_0, pl_1, pl_2, pl_3, pl_4, pl_5, pl_6, pl_7, pl_8, pl_9, pl_10, pl_11, pl_12, pl_13, e6, m_ofOrder, c1]
      · have c0 : oz_ord x.2 i 2 = 0 := by omega
        rw [if_neg (fun z => by rw [c0] at z; cases z.1)]
        simp (disch := first | assumption | omega) only [f_Mod_passes_121, lf_lt, Option.bind_some, nI_add, pk_mul, oz_sub, oz_addm1, oz_div, oz_mod, oz_ck, oz_nz, oz_le_t, oz_le_f, oz_lt_t, oz_lt_f, oz_eq_t, oz_eq_f, oz_eqm1, oz_m1eq, oz_neg1, oz_m1lt, oz_ltm1, oz_lem1, oz_m1le, oz_mx, oz_mn, if_true, if_false, ite_true, ite_false, oz_md_r, oz_md_o, oz_md_w, oz_md_wo, oz_md_2, Sum.elim_inl, Sum.elim_inr, pl_0, pl_1, pl_2, pl_3, pl_4, pl_5, pl_6, pl_7, pl_8, pl_9, pl_10, pl_11, pl_12, pl_13, e6, m_ofOrder, c0]) (a 6) 0 5000 (0, a) (by omega) (by omega) rfl
  subst k2
  exact k1
theorem c_ords (V : oz_V a) (C : oz_C s b a) {able : Nat} (hab : able ≤ 45) : ∃ t, f_Holt_makeOrders b (nI able) s = some (nI (oz_od a able (a 6)).1, t) ∧ oz_C t b (oz_od a able (a 6)).2 ∧ oz_fr (fun p => b ≤ p ∧ p < b + 24) s t := by
  have h0 := oz_v0 V
  unfold oz_V0 at h0
  obtain ⟨y, k1, k2, k3, k4⟩ := oz_forE (N := a 6) (fun i (x : Nat × lf_S) => x.1 = (oz_od a able i).1 ∧ oz_C x.2 b (oz_od a able i).2 ∧ oz_fr (fun p => b ≤ p ∧ p < b + 24) s x.2) (fun f i x => f_Holt_makeOrders_4 b (nI able) f (nI x.1) (nI i) x.2) (fun x => (nI x.1, x.2)) (by
      intro f x hx
      have e6 := (oz_od_V V (able := able) (a 6) (Nat.le_refl _)).2.2.1 6 (by omega) (by omega)
      simp (disch := first | assumption | omega) only [f_Holt_makeOrders_4, lf_lt, Option.bind_some, nI_add, pk_mul, oz_sub, oz_addm1, oz_div, oz_mod, oz_ck, oz_nz, oz_le_t, oz_le_f, oz_lt_t, oz_lt_f, oz_eq_t, oz_eq_f, oz_eqm1, oz_m1eq, oz_neg1, oz_m1lt, oz_ltm1, oz_lem1, oz_m1le, oz_mx, oz_mn, if_true, if_false, ite_true, ite_false, oz_md_r, oz_md_o, oz_md_w, oz_md_wo, oz_md_2, Sum.elim_inl, Sum.elim_inr, pl_0, pl_1, pl_2, pl_3, pl_4, pl_5, pl_6, pl_7, pl_8, pl_9, pl_10, pl_11, pl_12, pl_13, o_0 (oz_C_O hx.2.1), e6]) (by
      intro f i x hi hx
      obtain ⟨x1, x2⟩ := x
      obtain ⟨hx1, hx2, hx3⟩ := hx
      dsimp only at hx1 hx2 hx3
      subst hx1
      obtain ⟨v1, v2, v3, v4⟩ := oz_od_V V (able := able) i (by omega)
      have e6 := v3 6 (by omega) (by omega)
      have ho : i < (oz_od a able i).2 6 := by omega
      have e : oz_od a able (i + 1) = oz_ordt able i (oz_od a able i) := rfl
      rw [e]
      generalize oz_od a able i = x at *
      have h4 := oz_v4 v1 ho
      unfold oz_V4 at h4
      unfold oz_ordt
      by_cases c2 : oz_ord x.2 i 1 ≤ able
      · cases c3 : (oz_opn x.2 i && oz_has x.2 i) with
        | true =>
          rw [Bool.and_eq_true] at c3
          obtain ⟨t, l1, l2, l3⟩ := c_makeUp v1 hx2 ho (w := 1) (by omega) c3.2
          rw [if_pos ⟨c3.1, c2, c3.2⟩]
          refine ⟨(x.1 + 1, t), ⟨rfl, l2, oz_fr_tr hx3 l3⟩, ?_⟩
          simp (disch := first | assumption | omega) only [f_Holt_makeOrders_4, lf_lt, Option.bind_some, nI_add, pk_mul, oz_sub, oz_addm1, oz_div, oz_mod, oz_ck, oz_nz, oz_le_t, oz_le_f, oz_lt_t, oz_lt_f, oz_eq_t, oz_eq_f, oz_eqm1, oz_m1eq, oz_neg1, oz_m1lt, oz_ltm1, oz_lem1, oz_m1le, oz_mx, oz_mn, if_true, if_false, ite_true, ite_false, oz_md_r, oz_md_o, oz_md_w, oz_md_wo, oz_md_2, Sum.elim_inl, Sum.elim_inr, pl_0, pl_1, pl_2, pl_3, pl_4, pl_5, pl_6, pl_7, pl_8, pl_9, pl_10, pl_11, pl_12, pl_13, o_0 (oz_C_O hx2), o_2 (oz_C_O hx2) ho, e6, c_canMake v1 hx2 ho, c3.1, c3.2, Bool.and_self, l1]
        | false =>
          rw [if_neg (fun z => by rw [z.1, z.2.2] at c3; cases c3)]
          refine ⟨(x.1, x2), ⟨rfl, hx2, hx3⟩, ?_⟩
          simp (disch := first | assumption | omega) only [f_Holt_makeOrders_4, lf_lt, Option.bind_some, nI_add, pk_mul, oz_sub, oz_addm1, oz_div, oz_mod, oz_ck, oz_nz, oz_le_t, oz_le_f, oz_lt_t, oz_lt_f, oz_eq_t, oz_eq_f, oz_eqm1, oz_m1eq, oz_neg1, oz_m1lt, oz_ltm1, oz_lem1, oz_m1le, oz_mx, oz_mn, if_true, if_false, ite_true, ite_false, oz_md_r, oz_md_o, oz_md_w, oz_md_wo, oz_md_2, Sum.elim_inl, Sum.elim_inr, pl_0, pl_1, pl_2, pl_3, pl_4, pl_5, pl_6, pl_7, pl_8, pl_9, pl_10, pl_11, pl_12, pl_13, o_0 (oz_C_O hx2), o_2 (oz_C_O hx2) ho, e6, c_canMake v1 hx2 ho, c3]
          rfl
      · rw [if_neg (fun z => c2 z.2.1)]
        refine ⟨(x.1, x2), ⟨rfl, hx2, hx3⟩, ?_⟩
        simp (disch := first | assumption | omega) only [f_Holt_makeOrders_4, lf_lt, Option.bind_some, nI_add, pk_mul, oz_sub, oz_addm1, oz_div, oz_mod, oz_ck, oz_nz, oz_le_t, oz_le_f, oz_lt_t, oz_lt_f, oz_eq_t, oz_eq_f, oz_eqm1, oz_m1eq, oz_neg1, oz_m1lt, oz_ltm1, oz_lem1, oz_m1le, oz_mx, oz_mn, if_true, if_false, ite_true, ite_false, oz_md_r, oz_md_o, oz_md_w, oz_md_wo, oz_md_2, Sum.elim_inl, Sum.elim_inr, pl_0, pl_1, pl_2, pl_3, pl_4, pl_5, pl_6, pl_7, pl_8, pl_9, pl_10, pl_11, pl_12, pl_13, o_0 (oz_C_O hx2), o_2 (oz_C_O hx2) ho, e6]) (a 6) 0 5000 (0, s) (by omega) (by omega) ⟨rfl, C, oz_fr_rf⟩
  obtain ⟨y1, y2⟩ := y
  dsimp only at k1 k2 k3 k4
  subst k2
  refine ⟨y2, ?_, k3, k4⟩
  unfold f_Holt_makeOrders
  simp only [lf_lt, pl_0, k1, Option.bind_some]
end
