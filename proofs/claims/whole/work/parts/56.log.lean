/-! ===== the log; years ahead ===== -/
theorem oz_Nlt0 : (oz_N < (0 : Int32)) = True := eq_true (by decide +kernel)
theorem oz_ix2 (x : Int32) (n : Nat) (hn : n < 2147483648) : (∃ v, v < n ∧ x = nI v) ∨ (x < nI 0 ∨ (¬ x < nI 0 ∧ nI n - nI 1 < x ∧ ¬ x ≤ nI n - nI 1 ∧ nI n ≤ x ∧ ¬ x < nI n)) := by
  by_cases c : x < nI 0
  · exact Or.inr (Or.inl c)
  · obtain ⟨j, hj, rfl⟩ := nI_of (x := x) c
    by_cases c2 : j < n
    · exact Or.inl ⟨j, c2, rfl⟩
    · refine Or.inr (Or.inr ⟨c, ?_, ?_, ?_, ?_⟩)
      · by_cases c0 : n = 0
        · subst c0
          rw [show nI 0 - nI 1 = oz_N by decide +kernel, oz_m1lt hj]; trivial
        · rw [oz_sub (by omega), oz_lt (by omega) (by omega)]; omega
      · by_cases c0 : n = 0
        · subst c0
          rw [show nI 0 - nI 1 = oz_N by decide +kernel, oz_lem1 hj]; exact id
        · rw [oz_sub (by omega), oz_le (by omega) (by omega)]; omega
      · rw [oz_le (by omega) (by omega)]; omega
      · rw [oz_lt (by omega) (by omega)]; omega
def oz_iscut (a : Nat → Nat) (b g : Nat) : Bool := a (126 + (4 * g + 1)) == b && a (126 + (4 * g + 2)) == 0
def oz_ledn (a : Nat → Nat) (b : Nat) : Nat := oz_num (oz_iscut a b) (a 11)
def oz_ledy (a : Nat → Nat) (b : Nat) : Int32 := match oz_fst (oz_iscut a b) 0 (a 11) with
  | none => oz_N
  | some g => nI (a (126 + (4 * g + 0)))
section
variable {s : lf_S} {q : Nat} {a : Nat → Nat} {b : Nat}
theorem c_cellOf (V : oz_V a) (C : oz_CL s q a) {g w : Nat} (hg : g < a 11) (hw : w < 4) : f_Log_cellOf q (nI g) (nI w) s = some (nI (a (126 + (4 * g + w)))) := by
  have h0 := oz_v0 V
  unfold oz_V0 at h0
  have e := C.2 g w hg hw
  rw [show 4 * (a 11 - 1 - g) + w = (a 11 - 1 - g) * 4 + w by omega] at e
  unfold f_Log_cellOf
  simp (disch := first | assumption | omega) only [lf_lt, Option.bind_some, nI_add, pk_mul, oz_sub, oz_addm1, oz_div, oz_mod, oz_ck, oz_nz, oz_le_t, oz_le_f, oz_lt_t, oz_lt_f, oz_eq_t, oz_eq_f, oz_eqm1, oz_m1eq, oz_neg1, oz_m1lt, oz_ltm1, oz_lem1, oz_m1le, oz_mx, oz_mn, if_true, if_false, ite_true, ite_false, oz_md_r, oz_md_o, oz_md_w, oz_md_wo, oz_md_2, Sum.elim_inl, Sum.elim_inr, pl_0, pl_1, pl_2, pl_3, pl_4, pl_5, pl_6, pl_7, pl_8, pl_9, pl_10, pl_11, pl_12, pl_13, C.1, e]
theorem c_isCut (V : oz_V a) (C : oz_CL s q a) {g : Nat} (hb : b < 6) (hg : g < a 11) : f_Log_isCut q (nI g) (nI b) s = some (oz_iscut a b g) := by
  have h0 := oz_v0 V
  unfold oz_V0 at h0
  have v1 := oz_v6 V (i := 4 * g + 1) (by omega)
  have v2 := oz_v6 V (i := 4 * g + 2) (by omega)
  unfold f_Log_isCut oz_iscut
  simp (disch := first | assumption | omega) only [pl_1, pl_2, pl_0, c_cellOf V C hg, Option.bind_some, oz_eq]
  by_cases c : a (126 + (4 * g + 1)) = b
  · rw [if_pos c, beq_iff_eq.mpr c, Bool.true_and]
    by_cases c2 : a (126 + (4 * g + 2)) = 0
    · rw [if_pos c2, beq_iff_eq.mpr c2]
    · rw [if_neg c2, beq_eq_false_iff_ne.mpr c2]
  · rw [if_neg c, beq_eq_false_iff_ne.mpr c, Bool.false_and]
theorem c_cutsOf (V : oz_V a) (C : oz_CL s q a) (hb : b < 6) : f_Log_cutsOf q (nI b) s = some (nI (oz_ledn a b)) := by
  have h0 := oz_v0 V
  unfold oz_V0 at h0
  have key := oz_for (N := a 11) (fun f i (x : Nat) => f_Log_cutsOf_4 q (nI b) f (nI x) (nI i) s) (fun i x => x + if oz_iscut a b i then 1 else 0) nI 0 (by
      intro f x
      simp (disch := first | assumption | omega) only [f_Log_cutsOf_4, lf_lt, Option.bind_some, nI_add, pk_mul, oz_sub, oz_addm1, oz_div, oz_mod, oz_ck, oz_nz, oz_le_t, oz_le_f, oz_lt_t, oz_lt_f, oz_eq_t, oz_eq_f, oz_eqm1, oz_m1eq, oz_neg1, oz_m1lt, oz_ltm1, oz_lem1, oz_m1le, oz_mx, oz_mn, if_true, if_false, ite_true, ite_false, oz_md_r, oz_md_o, oz_md_w, oz_md_wo, oz_md_2, Sum.elim_inl, Sum.elim_inr, pl_0, pl_1, pl_2, pl_3, pl_4, pl_5, pl_6, pl_7, pl_8, pl_9, pl_10, pl_11, pl_12, pl_13, C.1]) (by
      intro f i x hi
      simp (disch := first | assumption | omega) only [f_Log_cutsOf_4, lf_lt, Option.bind_some, nI_add, pk_mul, oz_sub, oz_addm1, oz_div, oz_mod, oz_ck, oz_nz, oz_le_t, oz_le_f, oz_lt_t, oz_lt_f, oz_eq_t, oz_eq_f, oz_eqm1, oz_m1eq, oz_neg1, oz_m1lt, oz_ltm1, oz_lem1, oz_m1le, oz_mx, oz_mn, if_true, if_false, ite_true, ite_false, oz_md_r, oz_md_o, oz_md_w, oz_md_wo, oz_md_2, Sum.elim_inl, Sum.elim_inr, pl_0, pl_1, pl_2, pl_3, pl_4, pl_5, pl_6, pl_7, pl_8, pl_9, pl_10, pl_11, pl_12, pl_13, C.1, c_isCut V C hb hi]
      cases oz_iscut a b i <;> rfl) 5000 (by omega)
  rw [oz_it_sum (f := fun i => if oz_iscut a b i then 1 else 0)] at key
  unfold f_Log_cutsOf
  try dsimp only at key
  simp only [lf_lt, pl_0, key, Option.bind_some]; rfl
theorem c_latestCut (V : oz_V a) (C : oz_CL s q a) (hb : b < 6) : f_Log_latestCut q (nI b) s = some (oz_ledy a b) := by
  have h0 := oz_v0 V
  unfold oz_V0 at h0
  have key := oz_search (N := a 11) (fun f i => f_Log_latestCut_2 q (nI b) f (nI i) s) (oz_iscut a b) (Sum.inl ()) (fun g => Sum.inr (nI (a (126 + (4 * g + 0))))) (by
      intro f
      simp (disch := first | assumption | omega) only [f_Log_latestCut_2, lf_lt, Option.bind_some, nI_add, pk_mul, oz_sub, oz_addm1, oz_div, oz_mod, oz_ck, oz_nz, oz_le_t, oz_le_f, oz_lt_t, oz_lt_f, oz_eq_t, oz_eq_f, oz_eqm1, oz_m1eq, oz_neg1, oz_m1lt, oz_ltm1, oz_lem1, oz_m1le, oz_mx, oz_mn, if_true, if_false, ite_true, ite_false, oz_md_r, oz_md_o, oz_md_w, oz_md_wo, oz_md_2, Sum.elim_inl, Sum.elim_inr, pl_0, pl_1, pl_2, pl_3, pl_4, pl_5, pl_6, pl_7, pl_8, pl_9, pl_10, pl_11, pl_12, pl_13, C.1]) (by
      intro f i hi
      simp (disch := first | assumption | omega) only [f_Log_latestCut_2, lf_lt, Option.bind_some, nI_add, pk_mul, oz_sub, oz_addm1, oz_div, oz_mod, oz_ck, oz_nz, oz_le_t, oz_le_f, oz_lt_t, oz_lt_f, oz_eq_t, oz_eq_f, oz_eqm1, oz_m1eq, oz_neg1, oz_m1lt, oz_ltm1, oz_lem1, oz_m1le, oz_mx, oz_mn, if_true, if_false, ite_true, ite_false, oz_md_r, oz_md_o, oz_md_w, oz_md_wo, oz_md_2, Sum.elim_inl, Sum.elim_inr, pl_0, pl_1, pl_2, pl_3, pl_4, pl_5, pl_6, pl_7, pl_8, pl_9, pl_10, pl_11, pl_12, pl_13, C.1, c_isCut V C hb hi, c_cellOf V C hi]) (a 11) 0 5000 (by omega) (by omega)
  unfold f_Log_latestCut oz_ledy
  try dsimp only at key
  simp only [lf_lt, pl_0, pl_1, oz_neg1, key, Option.bind_some]
  cases oz_fst (oz_iscut a b) 0 (a 11) <;> rfl
theorem m_logged {g w : Nat} (hg : g < 60) (hw : w < 4) : f_Mod_logged (nI g) (nI w) (oz_md s a) = some (nI (a (126 + (4 * g + w)))) := by
  unfold f_Mod_logged
  simp (disch := first | assumption | omega) only [lf_lt, Option.bind_some, nI_add, pk_mul, oz_sub, oz_addm1, oz_div, oz_mod, oz_ck, oz_nz, oz_le_t, oz_le_f, oz_lt_t, oz_lt_f, oz_eq_t, oz_eq_f, oz_eqm1, oz_m1eq, oz_neg1, oz_m1lt, oz_ltm1, oz_lem1, oz_m1le, oz_mx, oz_mn, if_true, if_false, ite_true, ite_false, oz_md_r, oz_md_o, oz_md_w, oz_md_wo, oz_md_2, Sum.elim_inl, Sum.elim_inr, pl_0, pl_1, pl_2, pl_3, pl_4, pl_5, pl_6, pl_7, pl_8, pl_9, pl_10, pl_11, pl_12, pl_13, pl_126, Nat.add_assoc]
/-- counting down: m are left -/
def oz_dn (m : Nat) : Int32 := nI m - nI 1
theorem oz_dn_s (m : Nat) : oz_dn (m + 1) = nI m := by unfold oz_dn; rw [oz_sub (by omega), Nat.add_sub_cancel]
theorem oz_dn_0 : oz_dn 0 = oz_N := by decide +kernel
theorem oz_dn_d (m : Nat) : nI m + oz_N = oz_dn m := by
  unfold oz_dn
  rw [Int32.sub_eq_add_neg, oz_neg1]
theorem m_ledLoop (V : oz_V a) (hb : b < 6) (c2 : Int32) : ∀ m fuel cnt fnd, m ≤ a 11 → m < fuel → f_Mod_led_42 (nI b) c2 fuel (nI cnt) fnd (oz_dn m) (oz_md s a) = some (nI (cnt + oz_num (oz_iscut a b) m), (match oz_fst (oz_iscut a b) 0 m with
  | none => fnd
  | some g => nI (a (126 + (4 * g + 0)))), oz_md s a) := by
  have h0 := oz_v0 V
  unfold oz_V0 at h0
  intro m
  induction m with
  | zero =>
    intro fuel cnt fnd h1 h2
    obtain ⟨f, rfl⟩ : ∃ f, fuel = f + 1 := ⟨fuel - 1, by omega⟩
    rw [f_Mod_led_42, oz_dn_0, if_pos (of_eq_true oz_Nlt0)]; rfl
  | succ m ih =>
    intro fuel cnt fnd h1 h2
    obtain ⟨f, rfl⟩ : ∃ f, fuel = f + 1 := ⟨fuel - 1, by omega⟩
    have v1 := oz_v6 V (i := 4 * m + 1) (by omega)
    have v2 := oz_v6 V (i := 4 * m + 2) (by omega)
    have ef : oz_fst (oz_iscut a b) 0 (m + 1) = (oz_fst (oz_iscut a b) 0 m).or (if oz_iscut a b m then some m else none) := by
      have := oz_fst_succ (P := oz_iscut a b) m 0
      rw [Nat.zero_add] at this
      exact this
    have en : oz_num (oz_iscut a b) (m + 1) = oz_num (oz_iscut a b) m + if oz_iscut a b m then 1 else 0 := rfl
    rw [ef, en, oz_dn_s]
    by_cases c : a (126 + (4 * m + 1)) = b
    · by_cases c2 : a (126 + (4 * m + 2)) = 0
      · have ic : oz_iscut a b m = true := by unfold oz_iscut; rw [c, c2]; simp
        rw [ic]
        simp (disch := first | assumption | omega) only [f_Mod_led_42, lf_lt, Option.bind_some, nI_add, pk_mul, oz_sub, oz_addm1, oz_div, oz_mod, oz_ck, oz_nz, oz_le_t, oz_le_f, oz_lt_t, oz_lt_f, oz_eq_t, oz_eq_f, oz_eqm1, oz_m1eq, oz_neg1, oz_m1lt, oz_ltm1, oz_lem1, oz_m1le, oz_mx, oz_mn, if_true, if_false, ite_true, ite_false, oz_md_r, oz_md_o, oz_md_w, oz_md_wo, oz_md_2, Sum.elim_inl, Sum.elim_inr, pl_0, pl_1, pl_2, pl_3, pl_4, pl_5, pl_6, pl_7, pl_8, pl_9, pl_10, pl_11, pl_12, pl_13, m_logged, c, c2, oz_dn_d]
        rw [ih f (cnt + 1) _ (by omega) (by omega), show cnt + 1 + oz_num (oz_iscut a b) m = cnt + (oz_num (oz_iscut a b) m + 1) by omega]
        cases oz_fst (oz_iscut a b) 0 m <;> rfl
      · have ic : oz_iscut a b m = false := by unfold oz_iscut; simp [c2]
        rw [ic]
        simp (disch := first | assumption | omega) only [f_Mod_led_42, lf_lt, Option.bind_some, nI_add, pk_mul, oz_sub, oz_addm1, oz_div, oz_mod, oz_ck, oz_nz, oz_le_t, oz_le_f, oz_lt_t, oz_lt_f, oz_eq_t, oz_eq_f, oz_eqm1, oz_m1eq, oz_neg1, oz_m1lt, oz_ltm1, oz_lem1, oz_m1le, oz_mx, oz_mn, if_true, if_false, ite_true, ite_false, oz_md_r, oz_md_o, oz_md_w, oz_md_wo, oz_md_2, Sum.elim_inl, Sum.elim_inr, pl_0, pl_1, pl_2, pl_3, pl_4, pl_5, pl_6, pl_7, pl_8, pl_9, pl_10, pl_11, pl_12, pl_13, m_logged, c, oz_dn_d]
        rw [ih f cnt _ (by omega) (by omega)]
        cases oz_fst (oz_iscut a b) 0 m <;> rfl
    · have ic : oz_iscut a b m = false := by unfold oz_iscut; simp [c]
      rw [ic]
      simp (disch := first | assumption | omega) only [f_Mod_led_42, lf_lt, Option.bind_some, nI_add, pk_mul, oz_sub, oz_addm1, oz_div, oz_mod, oz_ck, oz_nz, oz_le_t, oz_le_f, oz_lt_t, oz_lt_f, oz_eq_t, oz_eq_f, oz_eqm1, oz_m1eq, oz_neg1, oz_m1lt, oz_ltm1, oz_lem1, oz_m1le, oz_mx, oz_mn, if_true, if_false, ite_true, ite_false, oz_md_r, oz_md_o, oz_md_w, oz_md_wo, oz_md_2, Sum.elim_inl, Sum.elim_inr, pl_0, pl_1, pl_2, pl_3, pl_4, pl_5, pl_6, pl_7, pl_8, pl_9, pl_10, pl_11, pl_12, pl_13, m_logged, oz_dn_d]
      rw [ih f cnt _ (by omega) (by omega)]
      cases oz_fst (oz_iscut a b) 0 m <;> rfl
/-! beds ahead, without floods -/
theorem oz_ages_bed {i : Nat} : ∀ n b w, n ≤ 6 → b < 6 → w < 4 → oz_bed (oz_ages a n) b w = if b < n then (if w = 2 then oz_agS a b else if w = 1 then oz_agA a b else oz_bed a b w) else oz_bed a b w := by
  intro n
  induction n with
  | zero => intro b w _ _ _; rw [if_neg (by omega)]; rfl
  | succ n ih =>
    intro b w hn hb hw
    show oz_bed (oz_agb n (oz_ages a n)) b w = _
    have e10 : oz_ages a n 10 = a 10 := by
      have : ∀ m, m ≤ 6 → oz_ages a m 10 = a 10 := by
        intro m
        induction m with
        | zero => intro _; rfl
        | succ m im =>
          intro hm
          show oz_agb m (oz_ages a m) 10 = a 10
          rw [oz_agb_eqr (lo := 0) (hi := 13) (by omega) (by omega) 10 (by omega) (by omega)]
          exact im (by omega)
      exact this n (by omega)
    have eb : ∀ w, w < 4 → oz_bed (oz_ages a n) n w = oz_bed a n w := fun w hw => by rw [ih n w (by omega) (by omega) hw, if_neg (by omega)]
    have eA : oz_agA (oz_ages a n) n = oz_agA a n := by
      unfold oz_agA
      rw [e10, eb 3 (by omega), eb 1 (by omega)]
    have eS : oz_agS (oz_ages a n) n = oz_agS a n := by
      unfold oz_agS
      rw [eA, eb 2 (by omega)]
    rw [oz_agb_bed hw, eA, eS, ih b w (by omega) hb hw]
    by_cases c : b = n
    · subst c
      rw [if_pos (by omega : b < b + 1), if_neg (by omega : ¬ b < b)]
      by_cases w2 : w = 2
      · rw [if_pos ⟨rfl, w2⟩, if_pos w2]
      · rw [if_neg (fun z => w2 z.2), if_neg w2]
        by_cases w1 : w = 1
        · rw [if_pos ⟨rfl, w1⟩, if_pos w1]
        · rw [if_neg (fun z => w1 z.2), if_neg w1]
    · rw [if_neg (fun z => c z.1), if_neg (fun z => c z.1)]
      by_cases c2 : b < n
      · rw [if_pos c2, if_pos (show b < n + 1 by omega)]
      · rw [if_neg c2, if_neg (show ¬ b < n + 1 by omega)]
theorem oz_od_bed (V : oz_V a) {able : Nat} : ∀ n, n ≤ a 6 → oz_eqr 13 37 a (oz_od a able n).2 ∧ ∀ hi, oz_eqr 366 hi a (oz_od a able n).2 := by
  have h0 := oz_v0 V
  unfold oz_V0 at h0
  intro n
  induction n with
  | zero => intro _; exact ⟨oz_eqr_rf, fun _ => oz_eqr_rf⟩
  | succ n ih =>
    intro hn
    obtain ⟨i1, i2⟩ := ih (by omega)
    obtain ⟨v1, v2, v3, v4⟩ := oz_od_V V (able := able) n (by omega)
    have e6 := v3 6 (by omega) (by omega)
    have hr := oz_rods_le v1 (show n < (oz_od a able n).2 6 by omega)
    show oz_eqr 13 37 a (oz_ordt able n (oz_od a able n)).2 ∧ ∀ hi, oz_eqr 366 hi a (oz_ordt able n (oz_od a able n)).2
    unfold oz_ordt
    split
    · exact ⟨oz_eqr_tr i1 (oz_mk_eqr (by omega) hr.2.2 (by omega)), fun hi => oz_eqr_tr (i2 hi) (oz_mk_eqr (by omega) hr.2.2 (by omega))⟩
    · exact ⟨i1, i2⟩
theorem oz_yr2_bed (V : oz_V a) {w : Nat} (hb : b < a 3) (hw : w < 4) : oz_bed (oz_yr2 a).2 b w = if w = 2 then oz_agS a b else if w = 1 then oz_agA a b else oz_bed a b w := by
  have h0 := oz_v0 V
  unfold oz_V0 at h0
  obtain ⟨v1, e1⟩ := oz_ages_V V (a 3) (Nat.le_refl _)
  have e1' := e1 0 13 (by omega)
  have hp := oz_pd_le v1 (oz_ages a (a 3) 5) (Nat.le_refl _)
  change (oz_pd (oz_ages a (a 3))).1 ≤ _ ∧ (oz_pd (oz_ages a (a 3))).2 ≤ 9999 at hp
  have v2 : oz_V (oz_up (oz_ages a (a 3)) 8 (oz_pd (oz_ages a (a 3))).2) := oz_V_up v1 (by omega)
  have e6 : oz_up (oz_ages a (a 3)) 8 (oz_pd (oz_ages a (a 3))).2 6 = a 6 := by rw [oz_up_n (by omega)]; exact e1' 6 (by omega) (by omega)
  have ho := (oz_od_bed v2 (able := (oz_pd (oz_ages a (a 3))).1) (a 6) (by omega)).1
  have e : oz_eqr 13 37 (oz_ages a (a 3)) (oz_yr2 a).2 := oz_eqr_up (oz_eqr_tr (oz_eqr_up oz_eqr_rf (by omega)) ho) (by omega)
  rw [oz_bed_eq e (by omega) hw, oz_ages_bed (i := 0) (a 3) b w (by omega) (by omega) hw, if_pos hb]
theorem oz_yr2_hi (V : oz_V a) : ∀ j, 366 ≤ j → (oz_yr2 a).2 j = a j := by
  intro j hj
  have h0 := oz_v0 V
  unfold oz_V0 at h0
  obtain ⟨v1, e1⟩ := oz_ages_V V (a 3) (Nat.le_refl _)
  have e1' := e1 0 13 (by omega)
  have hp := oz_pd_le v1 (oz_ages a (a 3) 5) (Nat.le_refl _)
  change (oz_pd (oz_ages a (a 3))).1 ≤ _ ∧ (oz_pd (oz_ages a (a 3))).2 ≤ 9999 at hp
  have v2 : oz_V (oz_up (oz_ages a (a 3)) 8 (oz_pd (oz_ages a (a 3))).2) := oz_V_up v1 (by omega)
  have e6 : oz_up (oz_ages a (a 3)) 8 (oz_pd (oz_ages a (a 3))).2 6 = a 6 := by rw [oz_up_n (by omega)]; exact e1' 6 (by omega) (by omega)
  have ho := (oz_od_bed v2 (able := (oz_pd (oz_ages a (a 3))).1) (a 6) (by omega)).2
  have e : oz_eqr 366 (j + 1) a (oz_yr2 a).2 := oz_eqr_tr (e1 366 (j + 1) (by omega)) (oz_eqr_up (oz_eqr_tr (oz_eqr_up oz_eqr_rf (by omega)) (ho (j + 1))) (by omega))
  exact e j hj (by omega)
end
