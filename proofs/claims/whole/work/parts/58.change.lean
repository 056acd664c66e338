/-! ===== small changes from weave to weave ===== -/
def oz_rw (R Q : Nat → Nat) (prev : Nat → Nat) (i : Nat) : Nat → Nat
  | 0 => i + 1
  | j + 1 => min (min (prev (j + 1)) (oz_rw R Q prev i j) + 1) (prev j + if R i = Q j then 0 else 1)
def oz_ed (R Q : Nat → Nat) : Nat → Nat → Nat
  | 0 => fun j => j
  | i + 1 => oz_rw R Q (oz_ed R Q i) i
theorem oz_ed_le {R Q : Nat → Nat} : ∀ i j, oz_ed R Q i j ≤ i + j := by
  intro i
  induction i with
  | zero => intro j; show j ≤ 0 + j; omega
  | succ i ih =>
    intro j
    induction j with
    | zero => show i + 1 ≤ _; omega
    | succ j jh =>
      have := ih (j + 1)
      show min (min (oz_ed R Q i (j + 1)) (oz_ed R Q (i + 1) j) + 1) _ ≤ _
      omega
theorem oz_ed_0 {R Q : Nat → Nat} {i : Nat} : oz_ed R Q i 0 = i := by cases i <;> rfl
theorem oz_ed_s {R Q : Nat → Nat} {i j : Nat} : oz_ed R Q (i + 1) (j + 1) = min (min (oz_ed R Q i (j + 1)) (oz_ed R Q (i + 1) j) + 1) (oz_ed R Q i j + if R i = Q j then 0 else 1) := rfl
theorem oz_ed_m1 {R Q : Nat → Nat} {i j : Nat} (h : R i = Q j) : oz_ed R Q (i + 1) (j + 1) = min (min (oz_ed R Q i (j + 1)) (oz_ed R Q (i + 1) j) + 1) (oz_ed R Q i j) := by
  rw [oz_ed_s, if_pos h]; rfl
theorem oz_ed_m2 {R Q : Nat → Nat} {i j : Nat} (h : ¬ R i = Q j) : oz_ed R Q (i + 1) (j + 1) = min (min (oz_ed R Q i (j + 1)) (oz_ed R Q (i + 1) j) + 1) (oz_ed R Q i j + 1) := by
  rw [oz_ed_s, if_neg h]
theorem oz_ed_c1 {R Q : Nat → Nat} {i j : Nat} (h : R i = Q j) : oz_ed R Q (i + 1) (j + 1) = min (oz_ed R Q i j) (min (oz_ed R Q i (j + 1)) (oz_ed R Q (i + 1) j) + 1) := by
  rw [oz_ed_m1 h, Nat.min_comm]
theorem oz_ed_c2 {R Q : Nat → Nat} {i j : Nat} (h : ¬ R i = Q j) : oz_ed R Q (i + 1) (j + 1) = min (oz_ed R Q i j + 1) (min (oz_ed R Q i (j + 1)) (oz_ed R Q (i + 1) j) + 1) := by
  rw [oz_ed_m2 h, Nat.min_comm]
def oz_chg (a : Nat → Nat) (k o : Nat) : Nat := oz_ed (oz_R a k) (oz_R a o) (oz_bas a k 4) (oz_bas a o 4)
section
variable {s : lf_S} {q : Nat} {a : Nat → Nat} {k o : Nat}
theorem oz_chg_le (V : oz_V a) (hk : k < a 4) (ho : o < a 4) : oz_chg a k o ≤ 12 := by
  have h2 := oz_v2 V hk
  unfold oz_V2 at h2
  have h3 := oz_v2 V ho
  unfold oz_V2 at h3
  have := oz_ed_le (R := oz_R a k) (Q := oz_R a o) (oz_bas a k 4) (oz_bas a o 4)
  unfold oz_chg
  omega
theorem m_changeRow (V : oz_V a) (hk : k < a 4) (ho : o < a 4) {i : Nat} (hi : i ≤ oz_bas a k 4) (c3 : Int32) (t0 : lf_S)
    (h0 : ∀ i' j', i' < i → j' ≤ oz_bas a o 4 → t0.1 400 (7 * i' + j') = nI (oz_ed (oz_R a k) (oz_R a o) i' j')) :
    ∃ t, f_Mod_changeOf_27 (nI k) (nI o) c3 (nI (oz_bas a o 4)) (nI i) 5000 (nI 0) (oz_md t0 a) = some (oz_md t a) ∧ (∀ i' j', i' < i + 1 → j' ≤ oz_bas a o 4 → t.1 400 (7 * i' + j') = nI (oz_ed (oz_R a k) (oz_R a o) i' j')) ∧ oz_fr (fun p => p = 400) t0 t := by
  have hv := oz_v0 V
  unfold oz_V0 at hv
  have h2 := oz_v2 V hk
  unfold oz_V2 at h2
  have h3 := oz_v2 V ho
  unfold oz_V2 at h3
  obtain ⟨t, k1, g1, g2, g3⟩ := oz_forE (N := oz_bas a o 4 + 1) (fun j (t : lf_S) => (∀ i' j', i' < i → j' ≤ oz_bas a o 4 → t.1 400 (7 * i' + j') = nI (oz_ed (oz_R a k) (oz_R a o) i' j')) ∧ (∀ j', j' < j → t.1 400 (7 * i + j') = nI (oz_ed (oz_R a k) (oz_R a o) i j')) ∧ oz_fr (fun p => p = 400) t0 t) (fun f j t => f_Mod_changeOf_27 (nI k) (nI o) c3 (nI (oz_bas a o 4)) (nI i) f (nI j) (oz_md t a)) (fun t => oz_md t a) (by
      intro f t ht
      simp (disch := first | assumption | omega) only [f_Mod_changeOf_27, lf_lt, Option.bind_some, nI_add, pk_mul, oz_sub, oz_addm1, oz_div, oz_mod, oz_ck, oz_nz, oz_le_t, oz_le_f, oz_lt_t, oz_lt_f, oz_eq_t, oz_eq_f, oz_eqm1, oz_m1eq, oz_neg1, oz_m1lt, oz_ltm1, oz_lem1, oz_m1le, oz_mx, oz_mn, if_true, if_false, ite_true, ite_false, oz_md_r, oz_md_o, oz_md_w, oz_md_wo, oz_md_2, Sum.elim_inl, Sum.elim_inr, pl_0, pl_1, pl_2, pl_3, pl_4, pl_5, pl_6, pl_7, pl_8, pl_9, pl_10, pl_11, pl_12, pl_13]) (by
      intro f j t hj ht
      obtain ⟨i1, i2, i3⟩ := ht
      refine ⟨lf_w t 400 (7 * i + j) (nI (oz_ed (oz_R a k) (oz_R a o) i j)), ⟨fun i' j' hi' hj' => ?_, fun j' hj' => ?_, oz_fr_tr i3 (oz_fr_w rfl)⟩, ?_⟩
      · rw [oz_w_n (by omega)]; exact i1 i' j' hi' hj'
      · by_cases c : j' = j
        · rw [c]; exact oz_w_s
        · rw [oz_w_n (by omega)]; exact i2 j' (by omega)
      · by_cases c0 : i = 0
        · subst c0
          have e : oz_ed (oz_R a k) (oz_R a o) 0 j = j := rfl
          rw [e]
          simp (disch := first | assumption | omega) only [f_Mod_changeOf_27, lf_lt, Option.bind_some, nI_add, pk_mul, oz_sub, oz_addm1, oz_div, oz_mod, oz_ck, oz_nz, oz_le_t, oz_le_f, oz_lt_t, oz_lt_f, oz_eq_t, oz_eq_f, oz_eqm1, oz_m1eq, oz_neg1, oz_m1lt, oz_ltm1, oz_lem1, oz_m1le, oz_mx, oz_mn, if_true, if_false, ite_true, ite_false, oz_md_r, oz_md_o, oz_md_w, oz_md_wo, oz_md_2, Sum.elim_inl, Sum.elim_inr, pl_0, pl_1, pl_2, pl_3, pl_4, pl_5, pl_6, pl_7, pl_8, pl_9, pl_10, pl_11, pl_12, pl_13]
        · by_cases c1 : j = 0
          · subst c1
            rw [oz_ed_0]
            simp (disch := first | assumption | omega) only [f_Mod_changeOf_27, lf_lt, Option.bind_some, nI_add, pk_mul, oz_sub, oz_addm1, oz_div, oz_mod, oz_ck, oz_nz, oz_le_t, oz_le_f, oz_lt_t, oz_lt_f, oz_eq_t, oz_eq_f, oz_eqm1, oz_m1eq, oz_neg1, oz_m1lt, oz_ltm1, oz_lem1, oz_m1le, oz_mx, oz_mn, if_true, if_false, ite_true, ite_false, oz_md_r, oz_md_o, oz_md_w, oz_md_wo, oz_md_2, Sum.elim_inl, Sum.elim_inr, pl_0, pl_1, pl_2, pl_3, pl_4, pl_5, pl_6, pl_7, pl_8, pl_9, pl_10, pl_11, pl_12, pl_13]
          · obtain ⟨i', rfl⟩ : ∃ i', i = i' + 1 := ⟨i - 1, by omega⟩
            obtain ⟨j', rfl⟩ : ∃ j', j = j' + 1 := ⟨j - 1, by omega⟩
            have l1 := oz_ed_le (R := oz_R a k) (Q := oz_R a o) i' (j' + 1)
            have l2 := oz_ed_le (R := oz_R a k) (Q := oz_R a o) (i' + 1) j'
            have l3 := oz_ed_le (R := oz_R a k) (Q := oz_R a o) i' j'
            have r1 := i1 i' (j' + 1) (by omega) (by omega)
            have r2 := i2 j' (by omega)
            have r3 := i1 i' j' (by omega) (by omega)
            have r4 := oz_v2r V hk (i := i') (by omega)
            have r5 := oz_v2r V ho (i := j') (by omega)
            have x1 : 7 * (i' + 1) - 7 + (j' + 1) = 7 * i' + (j' + 1) := by omega
            have x2 : 7 * (i' + 1) + (j' + 1) - 1 = 7 * (i' + 1) + j' := by omega
            have x3 : 7 * (i' + 1) - 7 + (j' + 1) - 1 = 7 * i' + j' := by omega
            have x6 : 7 * i' + (j' + 1) - 1 = 7 * i' + j' := by omega
            have x4 : 5 + (i' + 1) - 1 = 5 + i' := by omega
            have x5 : 5 + (j' + 1) - 1 = 5 + j' := by omega
            have y1 : oz_bas a k (5 + i') = oz_R a k i' := rfl
            have y2 : oz_bas a o (5 + j') = oz_R a o j' := rfl
            rw [y1] at r4
            rw [y2] at r5
            by_cases c2 : oz_R a k i' = oz_R a o j'
            · rw [oz_ed_m1 c2]
              simp (disch := first | assumption | omega) only [f_Mod_changeOf_27, lf_lt, Option.bind_some, nI_add, pk_mul, oz_sub, oz_addm1, oz_div, oz_mod, oz_ck, oz_nz, oz_le_t, oz_le_f, oz_lt_t, oz_lt_f, oz_eq_t, oz_eq_f, oz_eqm1, oz_m1eq, oz_neg1, oz_m1lt, oz_ltm1, oz_lem1, oz_m1le, oz_mx, oz_mn, if_true, if_false, ite_true, ite_false, oz_md_r, oz_md_o, oz_md_w, oz_md_wo, oz_md_2, Sum.elim_inl, Sum.elim_inr, pl_0, pl_1, pl_2, pl_3, pl_4, pl_5, pl_6, pl_7, pl_8, pl_9, pl_10, pl_11, pl_12, pl_13, x1, x2, x3, x4, x5, x6, r1, r2, r3, m_lesser, m_ofBasket, y1, y2, Nat.add_zero]
            · rw [oz_ed_m2 c2]
              simp (disch := first | assumption | omega) only [f_Mod_changeOf_27, lf_lt, Option.bind_some, nI_add, pk_mul, oz_sub, oz_addm1, oz_div, oz_mod, oz_ck, oz_nz, oz_le_t, oz_le_f, oz_lt_t, oz_lt_f, oz_eq_t, oz_eq_f, oz_eqm1, oz_m1eq, oz_neg1, oz_m1lt, oz_ltm1, oz_lem1, oz_m1le, oz_mx, oz_mn, if_true, if_false, ite_true, ite_false, oz_md_r, oz_md_o, oz_md_w, oz_md_wo, oz_md_2, Sum.elim_inl, Sum.elim_inr, pl_0, pl_1, pl_2, pl_3, pl_4, pl_5, pl_6, pl_7, pl_8, pl_9, pl_10, pl_11, pl_12, pl_13, x1, x2, x3, x4, x5, x6, r1, r2, r3, m_lesser, m_ofBasket, y1, y2]) (oz_bas a o 4 + 1) 0 5000 t0 (by omega) (by omega) ⟨h0, fun j' h => by omega, oz_fr_rf⟩
  refine ⟨t, k1, fun i' j' hi' hj' => ?_, g3⟩
  by_cases c : i' = i
  · rw [c]; exact g2 j' (by omega)
  · exact g1 i' j' (by omega) hj'
theorem m_changeOf (V : oz_V a) (hk : k < a 4) (ho : o < a 4) : ∃ t, f_Mod_changeOf (nI k) (nI o) (oz_md s a) = some (nI (oz_chg a k o), oz_md t a) ∧ oz_fr (fun p => p = 400) s t := by
  have hv := oz_v0 V
  unfold oz_V0 at hv
  have h2 := oz_v2 V hk
  unfold oz_V2 at h2
  have h3 := oz_v2 V ho
  unfold oz_V2 at h3
  obtain ⟨t, k1, g1, g2⟩ := oz_forE (N := oz_bas a k 4 + 1) (fun i (t : lf_S) => (∀ i' j', i' < i → j' ≤ oz_bas a o 4 → t.1 400 (7 * i' + j') = nI (oz_ed (oz_R a k) (oz_R a o) i' j')) ∧ oz_fr (fun p => p = 400) s t) (fun f i t => f_Mod_changeOf_18 (nI k) (nI o) (nI (oz_bas a k 4)) (nI (oz_bas a o 4)) f (nI i) (oz_md t a)) (fun t => oz_md t a) (by
      intro f t ht
      simp (disch := first | assumption | omega) only [f_Mod_changeOf_18, lf_lt, Option.bind_some, nI_add, pk_mul, oz_sub, oz_addm1, oz_div, oz_mod, oz_ck, oz_nz, oz_le_t, oz_le_f, oz_lt_t, oz_lt_f, oz_eq_t, oz_eq_f, oz_eqm1, oz_m1eq, oz_neg1, oz_m1lt, oz_ltm1, oz_lem1, oz_m1le, oz_mx, oz_mn, if_true, if_false, ite_true, ite_false, oz_md_r, oz_md_o, oz_md_w, oz_md_wo, oz_md_2, Sum.elim_inl, Sum.elim_inr, pl_0, pl_1, pl_2, pl_3, pl_4, pl_5, pl_6, pl_7, pl_8, pl_9, pl_10, pl_11, pl_12, pl_13]) (by
      intro f i t hi ht
      obtain ⟨t2, l1, l2, l3⟩ := m_changeRow V hk ho (i := i) (by omega) (nI (oz_bas a k 4)) t ht.1
      refine ⟨t2, ⟨l2, oz_fr_tr ht.2 l3⟩, ?_⟩
      simp (disch := first | assumption | omega) only [f_Mod_changeOf_18, lf_lt, Option.bind_some, nI_add, pk_mul, oz_sub, oz_addm1, oz_div, oz_mod, oz_ck, oz_nz, oz_le_t, oz_le_f, oz_lt_t, oz_lt_f, oz_eq_t, oz_eq_f, oz_eqm1, oz_m1eq, oz_neg1, oz_m1lt, oz_ltm1, oz_lem1, oz_m1le, oz_mx, oz_mn, if_true, if_false, ite_true, ite_false, oz_md_r, oz_md_o, oz_md_w, oz_md_wo, oz_md_2, Sum.elim_inl, Sum.elim_inr, pl_0, pl_1, pl_2, pl_3, pl_4, pl_5, pl_6, pl_7, pl_8, pl_9, pl_10, pl_11, pl_12, pl_13, l1]) (oz_bas a k 4 + 1) 0 5000 s (by omega) (by omega) ⟨fun i' j' h => by omega, oz_fr_rf⟩
  have e := g1 (oz_bas a k 4) (oz_bas a o 4) (by omega) (by omega)
  have e2 : (oz_md t a).1 400 = t.1 400 := oz_md_o (by omega)
  refine ⟨t, ?_, g2⟩
  unfold f_Mod_changeOf
  try dsimp only at k1
  simp (disch := first | assumption | omega) only [lf_lt, pl_0, pl_4, pl_7, m_ofBasket, Option.bind_some, k1, nI_add, pk_mul, oz_ck, e2, e]
  rfl
/-! the class -/
theorem c_runOf (V : oz_V a) (C : oz_CK s q a) (hk : k < a 4) {i : Nat} (hi : i < oz_bas a k 4) : f_Baskets_runOf q (nI k) (nI i) s = some (nI (oz_R a k i)) := by
  have hv := oz_v0 V
  unfold oz_V0 at hv
  have h2 := oz_v2 V hk
  unfold oz_V2 at h2
  have e := k_7 C hk hi
  rw [Nat.mul_comm] at e
  unfold f_Baskets_runOf
  simp (disch := first | assumption | omega) only [lf_lt, Option.bind_some, nI_add, pk_mul, oz_sub, oz_addm1, oz_div, oz_mod, oz_ck, oz_nz, oz_le_t, oz_le_f, oz_lt_t, oz_lt_f, oz_eq_t, oz_eq_f, oz_eqm1, oz_m1eq, oz_neg1, oz_m1lt, oz_ltm1, oz_lem1, oz_m1le, oz_mx, oz_mn, if_true, if_false, ite_true, ite_false, oz_md_r, oz_md_o, oz_md_w, oz_md_wo, oz_md_2, Sum.elim_inl, Sum.elim_inr, pl_0, pl_1, pl_2, pl_3, pl_4, pl_5, pl_6, pl_7, pl_8, pl_9, pl_10, pl_11, pl_12, pl_13, e, oz_R]
theorem oz_lt0 {α : Type} {A B : α} : lf_lt (0 : Int32) (fun y => if y = 0 then A else B) = A := by
  unfold lf_lt
  exact if_pos rfl
theorem oz_lt1 {α : Type} {A B : α} : lf_lt (1 : Int32) (fun y => if y = 0 then A else B) = B := by
  unfold lf_lt
  exact if_neg (by decide +kernel)
theorem c_stepsCell {t : lf_S} {i j m w1 w2 w3 w4 ri rj : Nat} (q1 : f_Baskets_runOf q (nI k) (nI i) t = some (nI ri)) (q2 : f_Baskets_runOf q (nI o) (nI j) t = some (nI rj)) (hri : ri ≤ 4) (hrj : rj ≤ 4) (hj : j < m ∧ m ≤ 6) (r2 : t.1 9 j = nI w3) (r1 : t.1 9 (j + 1) = nI w2) (l1 : w1 ≤ 100) (l2 : w2 ≤ 100) (l3 : w3 ≤ 100) (hw : w4 = min (if ri = rj then w1 else w1 + 1) (min w2 w3 + 1)) (f : Nat) :
    f_Ways_steps_68 q (nI k) (nI o) (nI m) (nI i) (f + 1) (nI w1) (nI (j + 1)) t = f_Ways_steps_68 q (nI k) (nI o) (nI m) (nI i) f (nI w2) (nI (j + 1 + 1)) (lf_w t 9 (j + 1) (nI w4)) := by
  have e4 : ∀ x, x ≤ 101 → lf_mn (nI x) (lf_mn (nI w2) (nI w3) + nI 1) = nI (min x (min w2 w3 + 1)) := by
    intro x hx
    rw [oz_mn (a := w2) (b := w3) (by omega) (by omega), nI_add, oz_mn (a := x) (b := min w2 w3 + 1) (by omega) (by omega)]
  by_cases c2 : ri = rj
  · rw [if_pos c2] at hw
    subst hw
    rw [f_Ways_steps_68, oz_ilt_f (by omega) (by omega), show nI (j + 1) - (1 : Int32) = nI (j + 1) - nI 1 from rfl, oz_sub (by omega), Nat.add_sub_cancel, q1, q2, Option.bind_some, Option.bind_some, if_pos (by rw [c2]), oz_lt1]
    simp only [lf_lt, pl_1]
    rw [ oz_ck (by omega) (by omega), oz_ck (by omega) (by omega), oz_ck (by omega) (by omega), oz_ck (by omega) (by omega), r1, r2, e4 w1 (by omega), nI_add]
  · rw [if_neg c2] at hw
    subst hw
    have e5 : (nI ri = nI rj) = False := by rw [oz_eq (by omega) (by omega)]; exact eq_false c2
    rw [f_Ways_steps_68, oz_ilt_f (by omega) (by omega), show nI (j + 1) - (1 : Int32) = nI (j + 1) - nI 1 from rfl, oz_sub (by omega), Nat.add_sub_cancel, q1, q2, Option.bind_some, Option.bind_some, if_neg (of_eq_false e5), oz_lt0]
    simp only [lf_lt, pl_1]
    rw [oz_ck (by omega) (by omega), oz_ck (by omega) (by omega), oz_ck (by omega) (by omega), oz_ck (by omega) (by omega), r1, r2, nI_add w1 1, e4 (w1 + 1) (by omega), nI_add]
theorem c_stepsRow (V : oz_V a) (hq : 10 ≤ q) (hk : k < a 4) (ho : o < a 4) {i : Nat} (hi : i < oz_bas a k 4) (t0 : lf_S) (C : oz_CK t0 q a)
    (h0 : ∀ j, j ≤ oz_bas a o 4 → t0.1 9 j = nI (if j = 0 then i + 1 else oz_ed (oz_R a k) (oz_R a o) i j)) :
    ∃ t, f_Ways_steps_68 q (nI k) (nI o) (nI (oz_bas a o 4)) (nI i) 5000 (nI i) (nI 1) t0 = some t ∧ (∀ j, j ≤ oz_bas a o 4 → t.1 9 j = nI (oz_ed (oz_R a k) (oz_R a o) (i + 1) j)) ∧ oz_fr (fun p => p = 9) t0 t := by
  have hv := oz_v0 V
  unfold oz_V0 at hv
  have h2 := oz_v2 V hk
  unfold oz_V2 at h2
  have h3 := oz_v2 V ho
  unfold oz_V2 at h3
  obtain ⟨t, k1, g1, g2⟩ := oz_forE (N := oz_bas a o 4) (fun j (t : lf_S) => (∀ j', j' ≤ oz_bas a o 4 → t.1 9 j' = nI (if j' < j + 1 then oz_ed (oz_R a k) (oz_R a o) (i + 1) j' else oz_ed (oz_R a k) (oz_R a o) i j')) ∧ oz_fr (fun p => p = 9) t0 t) (fun f j t => f_Ways_steps_68 q (nI k) (nI o) (nI (oz_bas a o 4)) (nI i) f (nI (oz_ed (oz_R a k) (oz_R a o) i j)) (nI (j + 1)) t) (fun t => t) (by
      intro f t ht
      rw [f_Ways_steps_68, oz_ilt_t (by omega) (by omega)]) (by
      intro f j t hj ht
      obtain ⟨i1, i2⟩ := ht
      have Ct : oz_CK t q a := oz_CK_cg V C (fun p h1 h2 => i2.1 p (by omega)) rfl oz_eqr_rf
      have l1 := oz_ed_le (R := oz_R a k) (Q := oz_R a o) i (j + 1)
      have l2 := oz_ed_le (R := oz_R a k) (Q := oz_R a o) (i + 1) j
      have l3 := oz_ed_le (R := oz_R a k) (Q := oz_R a o) i j
      have r1 := i1 (j + 1) (by omega)
      rw [if_neg (by omega)] at r1
      have r2 := i1 j (by omega)
      rw [if_pos (by omega)] at r2
      have q1 := c_runOf V Ct hk hi
      have q2 := c_runOf V Ct ho (i := j) (by omega)
      have r4 := oz_v2r V hk (i := i) (by omega)
      have r5 := oz_v2r V ho (i := j) (by omega)
      have r4' : oz_R a k i ≤ 4 := r4.2
      have r5' : oz_R a o j ≤ 4 := r5.2
      refine ⟨lf_w t 9 (j + 1) (nI (oz_ed (oz_R a k) (oz_R a o) (i + 1) (j + 1))), ⟨fun j' hj' => ?_, oz_fr_tr i2 (oz_fr_w rfl)⟩, ?_⟩
      · by_cases c : j' = j + 1
        · rw [c, if_pos (by omega)]; exact oz_w_s
        · rw [oz_w_n c, i1 j' hj']
          by_cases c2 : j' < j + 1
          · rw [if_pos c2, if_pos (by omega)]
          · rw [if_neg c2, if_neg (by omega)]
      · exact c_stepsCell (t := t) (w1 := oz_ed (oz_R a k) (oz_R a o) i j) (w2 := oz_ed (oz_R a k) (oz_R a o) i (j + 1)) (w3 := oz_ed (oz_R a k) (oz_R a o) (i + 1) j) q1 q2 (by omega) (by omega) (by omega) r2 r1 (by omega) (by omega) (by omega) (by
          by_cases c2 : oz_R a k i = oz_R a o j
          · rw [oz_ed_c1 c2, if_pos c2]
          · rw [oz_ed_c2 c2, if_neg c2]) f) (oz_bas a o 4) 0 5000 t0 (by omega) (by omega) ⟨fun j' hj' => by
        rw [h0 j' hj']
        by_cases c : j' = 0
        · rw [if_pos c, if_pos (by omega), c]; rfl
        · rw [if_neg c, if_neg (by omega)], oz_fr_rf⟩
  rw [oz_ed_0] at k1
  refine ⟨t, k1, fun j hj => ?_, g2⟩
  rw [g1 j hj, if_pos (by omega)]
theorem c_steps (V : oz_V a) (C : oz_CK s q a) (hq : 10 ≤ q) (hk : k < a 4) (ho : o < a 4) : ∃ t, f_Ways_steps q (nI k) (nI o) s = some (nI (oz_chg a k o), t) ∧ oz_fr (fun p => p = 9) s t := by
  have hv := oz_v0 V
  unfold oz_V0 at hv
  have h2 := oz_v2 V hk
  unfold oz_V2 at h2
  have h3 := oz_v2 V ho
  unfold oz_V2 at h3
  obtain ⟨t1, k1, g1, g2⟩ := oz_forE (N := oz_bas a o 4 + 1) (fun j (t : lf_S) => (∀ j', j' < j → t.1 9 j' = nI j') ∧ oz_fr (fun p => p = 9) s t) (fun f j t => f_Ways_steps_11 q (nI k) (nI o) (nI (oz_bas a o 4)) f (nI j) t) (fun t => t) (by
      intro f t ht
      simp (disch := first | assumption | omega) only [f_Ways_steps_11, lf_lt, Option.bind_some, nI_add, pk_mul, oz_sub, oz_addm1, oz_div, oz_mod, oz_ck, oz_nz, oz_le_t, oz_le_f, oz_lt_t, oz_lt_f, oz_eq_t, oz_eq_f, oz_eqm1, oz_m1eq, oz_neg1, oz_m1lt, oz_ltm1, oz_lem1, oz_m1le, oz_mx, oz_mn, if_true, if_false, ite_true, ite_false, oz_md_r, oz_md_o, oz_md_w, oz_md_wo, oz_md_2, Sum.elim_inl, Sum.elim_inr, pl_0, pl_1, pl_2, pl_3, pl_4, pl_5, pl_6, pl_7, pl_8, pl_9, pl_10, pl_11, pl_12, pl_13]) (by
      intro f j t hj ht
      refine ⟨lf_w t 9 j (nI j), ⟨fun j' hj' => ?_, oz_fr_tr ht.2 (oz_fr_w rfl)⟩, ?_⟩
      · by_cases c : j' = j
        · rw [c]; exact oz_w_s
        · rw [oz_w_n c]; exact ht.1 j' (by omega)
      · simp (disch := first | assumption | omega) only [f_Ways_steps_11, lf_lt, Option.bind_some, nI_add, pk_mul, oz_sub, oz_addm1, oz_div, oz_mod, oz_ck, oz_nz, oz_le_t, oz_le_f, oz_lt_t, oz_lt_f, oz_eq_t, oz_eq_f, oz_eqm1, oz_m1eq, oz_neg1, oz_m1lt, oz_ltm1, oz_lem1, oz_m1le, oz_mx, oz_mn, if_true, if_false, ite_true, ite_false, oz_md_r, oz_md_o, oz_md_w, oz_md_wo, oz_md_2, Sum.elim_inl, Sum.elim_inr, pl_0, pl_1, pl_2, pl_3, pl_4, pl_5, pl_6, pl_7, pl_8, pl_9, pl_10, pl_11, pl_12, pl_13]) (oz_bas a o 4 + 1) 0 5000 s (by omega) (by omega) ⟨fun j' h => by omega, oz_fr_rf⟩
  obtain ⟨t2, k2, g3, g4⟩ := oz_forE (N := oz_bas a k 4) (fun i (t : lf_S) => (∀ j, j ≤ oz_bas a o 4 → t.1 9 j = nI (oz_ed (oz_R a k) (oz_R a o) i j)) ∧ oz_fr (fun p => p = 9) s t) (fun f i t => f_Ways_steps_36 q (nI k) (nI o) (nI (oz_bas a o 4)) f (nI i) t) (fun t => t) (by
      intro f t ht
      have Ct : oz_CK t q a := oz_CK_cg V C (fun p h1 h2 => ht.2.1 p (by omega)) rfl oz_eqr_rf
      simp (disch := first | assumption | omega) only [f_Ways_steps_36, lf_lt, Option.bind_some, nI_add, pk_mul, oz_sub, oz_addm1, oz_div, oz_mod, oz_ck, oz_nz, oz_le_t, oz_le_f, oz_lt_t, oz_lt_f, oz_eq_t, oz_eq_f, oz_eqm1, oz_m1eq, oz_neg1, oz_m1lt, oz_ltm1, oz_lem1, oz_m1le, oz_mx, oz_mn, if_true, if_false, ite_true, ite_false, oz_md_r, oz_md_o, oz_md_w, oz_md_wo, oz_md_2, Sum.elim_inl, Sum.elim_inr, pl_0, pl_1, pl_2, pl_3, pl_4, pl_5, pl_6, pl_7, pl_8, pl_9, pl_10, pl_11, pl_12, pl_13, k_5 Ct hk]) (by
      intro f i t hi ht
      obtain ⟨i1, i2⟩ := ht
      have Ct : oz_CK t q a := oz_CK_cg V C (fun p h1 h2 => i2.1 p (by omega)) rfl oz_eqr_rf
      have Cu : oz_CK (lf_w t 9 0 (nI (i + 1))) q a := oz_CK_cg V Ct (fun p h1 h2 => oz_w_o (by omega)) rfl oz_eqr_rf
      have r0 := i1 0 (by omega)
      rw [oz_ed_0] at r0
      obtain ⟨u, l1, l2, l3⟩ := c_stepsRow V hq hk ho hi (lf_w t 9 0 (nI (i + 1))) Cu (fun j hj => by
        by_cases c : j = 0
        · rw [c, if_pos rfl]; exact oz_w_s
        · rw [if_neg c, oz_w_n c]; exact i1 j hj)
      refine ⟨u, ⟨l2, oz_fr_tr i2 (oz_fr_tr (oz_fr_w rfl) l3)⟩, ?_⟩
      simp (disch := first | assumption | omega) only [f_Ways_steps_36, lf_lt, Option.bind_some, nI_add, pk_mul, oz_sub, oz_addm1, oz_div, oz_mod, oz_ck, oz_nz, oz_le_t, oz_le_f, oz_lt_t, oz_lt_f, oz_eq_t, oz_eq_f, oz_eqm1, oz_m1eq, oz_neg1, oz_m1lt, oz_ltm1, oz_lem1, oz_m1le, oz_mx, oz_mn, if_true, if_false, ite_true, ite_false, oz_md_r, oz_md_o, oz_md_w, oz_md_wo, oz_md_2, Sum.elim_inl, Sum.elim_inr, pl_0, pl_1, pl_2, pl_3, pl_4, pl_5, pl_6, pl_7, pl_8, pl_9, pl_10, pl_11, pl_12, pl_13, k_5 Ct hk, r0, l1]) (oz_bas a k 4) 0 5000 t1 (by omega) (by omega) ⟨fun j hj => g1 j (by omega), g2⟩
  have e := g3 (oz_bas a o 4) (by omega)
  refine ⟨t2, ?_, g4⟩
  unfold f_Ways_steps
  try dsimp only at k1 k2
  simp (disch := first | assumption | omega) only [lf_lt, Option.bind_some, nI_add, pk_mul, oz_sub, oz_addm1, oz_div, oz_mod, oz_ck, oz_nz, oz_le_t, oz_le_f, oz_lt_t, oz_lt_f, oz_eq_t, oz_eq_f, oz_eqm1, oz_m1eq, oz_neg1, oz_m1lt, oz_ltm1, oz_lem1, oz_m1le, oz_mx, oz_mn, if_true, if_false, ite_true, ite_false, oz_md_r, oz_md_o, oz_md_w, oz_md_wo, oz_md_2, Sum.elim_inl, Sum.elim_inr, pl_0, pl_1, pl_2, pl_3, pl_4, pl_5, pl_6, pl_7, pl_8, pl_9, pl_10, pl_11, pl_12, pl_13, k_5 C ho, k1, k2, e]
  rfl
/-! the nearest -/
def oz_nrs (a : Nat → Nat) (k o : Nat) (x : Option (Nat × Nat)) : Option (Nat × Nat) := if o = k then x else match x with
  | none => some (o, oz_chg a k o)
  | some (f, l) => if oz_chg a k o < l then some (o, oz_chg a k o) else some (f, l)
def oz_nr (a : Nat → Nat) (k : Nat) : Option (Nat × Nat) := oz_it (oz_nrs a k) (a 4) none
theorem oz_nrs_I (V : oz_V a) (hk : k < a 4) {i : Nat} (hi : i < a 4) {x : Option (Nat × Nat)} (hx : ∀ f l, x = some (f, l) → f < i ∧ l ≤ 12) : ∀ f l, oz_nrs a k i x = some (f, l) → f < i + 1 ∧ l ≤ 12 := by
  intro f l h
  have hc := oz_chg_le V hk hi
  unfold oz_nrs at h
  split at h
  · have := hx f l h; omega
  · cases x with
    | none => cases h; omega
    | some y =>
      obtain ⟨f2, l2⟩ := y
      have := hx f2 l2 rfl
      try dsimp only at h
      split at h
      · cases h; omega
      · cases h; omega
theorem c_nearest (V : oz_V a) (C : oz_CK s q a) (hq : 10 ≤ q) (hk : k < a 4) : ∃ t, f_Ways_nearest q (nI k) s = some (oz_en ((oz_nr a k).map Prod.fst), t) ∧ oz_fr (fun p => p = 9) s t := by
  have hv := oz_v0 V
  unfold oz_V0 at hv
  obtain ⟨y, k1, g1, g2, g3⟩ := oz_forE (N := a 4) (fun i (x : lf_S × Option (Nat × Nat)) => x.2 = oz_it (oz_nrs a k) i none ∧ (∀ f l, x.2 = some (f, l) → f < i ∧ l ≤ 12) ∧ oz_fr (fun p => p = 9) s x.1) (fun f i x => f_Ways_nearest_8 q (nI k) f (oz_en (x.2.map Prod.fst)) (match x.2 with
    | none => nI 0
    | some (_, l) => nI l) (nI i) x.1) (fun x => (oz_en (x.2.map Prod.fst), x.1)) (by
      intro f x hx
      have Ct : oz_CK x.1 q a := oz_CK_cg V C (fun p h1 h2 => hx.2.2.1 p (by omega)) rfl oz_eqr_rf
      simp (disch := first | assumption | omega) only [f_Ways_nearest_8, lf_lt, Option.bind_some, nI_add, pk_mul, oz_sub, oz_addm1, oz_div, oz_mod, oz_ck, oz_nz, oz_le_t, oz_le_f, oz_lt_t, oz_lt_f, oz_eq_t, oz_eq_f, oz_eqm1, oz_m1eq, oz_neg1, oz_m1lt, oz_ltm1, oz_lem1, oz_m1le, oz_mx, oz_mn, if_true, if_false, ite_true, ite_false, oz_md_r, oz_md_o, oz_md_w, oz_md_wo, oz_md_2, Sum.elim_inl, Sum.elim_inr, pl_0, pl_1, pl_2, pl_3, pl_4, pl_5, pl_6, pl_7, pl_8, pl_9, pl_10, pl_11, pl_12, pl_13, k_0 Ct]) (by
      intro f i x hi hx
      obtain ⟨x1, x2⟩ := x
      obtain ⟨i1, i2, i3⟩ := hx
      try dsimp only at i1 i2 i3
      have Ct : oz_CK x1 q a := oz_CK_cg V C (fun p h1 h2 => i3.1 p (by omega)) rfl oz_eqr_rf
      have hc := oz_chg_le V hk hi
      have hI := oz_nrs_I V hk hi i2
      by_cases c : i = k
      · refine ⟨(x1, oz_nrs a k i x2), ⟨by rw [i1]; rfl, hI, i3⟩, ?_⟩
        have e : oz_nrs a k i x2 = x2 := if_pos c
        rw [e]
        simp (disch := first | assumption | omega) only [f_Ways_nearest_8, lf_lt, Option.bind_some, nI_add, pk_mul, oz_sub, oz_addm1, oz_div, oz_mod, oz_ck, oz_nz, oz_le_t, oz_le_f, oz_lt_t, oz_lt_f, oz_eq_t, oz_eq_f, oz_eqm1, oz_m1eq, oz_neg1, oz_m1lt, oz_ltm1, oz_lem1, oz_m1le, oz_mx, oz_mn, if_true, if_false, ite_true, ite_false, oz_md_r, oz_md_o, oz_md_w, oz_md_wo, oz_md_2, Sum.elim_inl, Sum.elim_inr, pl_0, pl_1, pl_2, pl_3, pl_4, pl_5, pl_6, pl_7, pl_8, pl_9, pl_10, pl_11, pl_12, pl_13, k_0 Ct]
      · obtain ⟨u, l1, l2⟩ := c_steps V Ct hq hk hi
        refine ⟨(u, oz_nrs a k i x2), ⟨by rw [i1]; rfl, hI, oz_fr_tr i3 l2⟩, ?_⟩
        cases x2 with
        | none =>
          have e : oz_nrs a k i none = some (i, oz_chg a k i) := if_neg c
          rw [e]
          simp only [Option.map_none, Option.map_some, oz_en]
          simp (disch := first | assumption | omega) only [f_Ways_nearest_8, lf_lt, Option.bind_some, nI_add, pk_mul, oz_sub, oz_addm1, oz_div, oz_mod, oz_ck, oz_nz, oz_le_t, oz_le_f, oz_lt_t, oz_lt_f, oz_eq_t, oz_eq_f, oz_eqm1, oz_m1eq, oz_neg1, oz_m1lt, oz_ltm1, oz_lem1, oz_m1le, oz_mx, oz_mn, if_true, if_false, ite_true, ite_false, oz_md_r, oz_md_o, oz_md_w, oz_md_wo, oz_md_2, Sum.elim_inl, Sum.elim_inr, pl_0, pl_1, pl_2, pl_3, pl_4, pl_5, pl_6, pl_7, pl_8, pl_9, pl_10, pl_11, pl_12, pl_13, k_0 Ct, l1]
        | some y =>
          obtain ⟨f2, l2'⟩ := y
          have i2' := i2 f2 l2' rfl
          have e : oz_nrs a k i (some (f2, l2')) = if oz_chg a k i < l2' then some (i, oz_chg a k i) else some (f2, l2') := if_neg c
          rw [e]
          simp only [Option.map_some, oz_en]
          by_cases c2 : oz_chg a k i < l2'
          · rw [if_pos c2]
            simp (disch := first | assumption | omega) only [f_Ways_nearest_8, lf_lt, Option.bind_some, nI_add, pk_mul, oz_sub, oz_addm1, oz_div, oz_mod, oz_ck, oz_nz, oz_le_t, oz_le_f, oz_lt_t, oz_lt_f, oz_eq_t, oz_eq_f, oz_eqm1, oz_m1eq, oz_neg1, oz_m1lt, oz_ltm1, oz_lem1, oz_m1le, oz_mx, oz_mn, if_true, if_false, ite_true, ite_false, oz_md_r, oz_md_o, oz_md_w, oz_md_wo, oz_md_2, Sum.elim_inl, Sum.elim_inr, pl_0, pl_1, pl_2, pl_3, pl_4, pl_5, pl_6, pl_7, pl_8, pl_9, pl_10, pl_11, pl_12, pl_13, k_0 Ct, l1]
            rfl
          · rw [if_neg c2]
            simp (disch := first | assumption | omega) only [f_Ways_nearest_8, lf_lt, Option.bind_some, nI_add, pk_mul, oz_sub, oz_addm1, oz_div, oz_mod, oz_ck, oz_nz, oz_le_t, oz_le_f, oz_lt_t, oz_lt_f, oz_eq_t, oz_eq_f, oz_eqm1, oz_m1eq, oz_neg1, oz_m1lt, oz_ltm1, oz_lem1, oz_m1le, oz_mx, oz_mn, if_true, if_false, ite_true, ite_false, oz_md_r, oz_md_o, oz_md_w, oz_md_wo, oz_md_2, Sum.elim_inl, Sum.elim_inr, pl_0, pl_1, pl_2, pl_3, pl_4, pl_5, pl_6, pl_7, pl_8, pl_9, pl_10, pl_11, pl_12, pl_13, k_0 Ct, l1]
            rfl) (a 4) 0 5000 (s, none) (by omega) (by omega) ⟨rfl, (fun f l h => by cases h), oz_fr_rf⟩
  obtain ⟨y1, y2⟩ := y
  try dsimp only at k1 g1 g2 g3
  refine ⟨y1, ?_, g3⟩
  unfold f_Ways_nearest
  have e0 : oz_en ((none : Option (Nat × Nat)).map Prod.fst) = oz_N := rfl
  rw [e0] at k1
  simp only [lf_lt, pl_0, pl_1, oz_neg1, k1, Option.bind_some, g1]; rfl
theorem m_nearest (V : oz_V a) (hk : k < a 4) : ∃ t, f_Mod_nearest (nI k) (oz_md s a) = some (oz_en ((oz_nr a k).map Prod.fst), oz_md t a) ∧ oz_fr (fun p => p = 400) s t := by
  have hv := oz_v0 V
  unfold oz_V0 at hv
  obtain ⟨y, k1, g1, g2, g3⟩ := oz_forE (N := a 4) (fun i (x : lf_S × Option (Nat × Nat)) => x.2 = oz_it (oz_nrs a k) i none ∧ (∀ f l, x.2 = some (f, l) → f < i ∧ l ≤ 12) ∧ oz_fr (fun p => p = 400) s x.1) (fun f i x => f_Mod_nearest_9 (nI k) f (oz_en (x.2.map Prod.fst)) (match x.2 with
    | none => nI 2000000000
    | some (_, l) => nI l) (nI i) (oz_md x.1 a)) (fun x => (oz_en (x.2.map Prod.fst), oz_md x.1 a)) (by
      intro f x hx
      simp (disch := first | assumption | omega) only [f_Mod_nearest_9, lf_lt, Option.bind_some, nI_add, pk_mul, oz_sub, oz_addm1, oz_div, oz_mod, oz_ck, oz_nz, oz_le_t, oz_le_f, oz_lt_t, oz_lt_f, oz_eq_t, oz_eq_f, oz_eqm1, oz_m1eq, oz_neg1, oz_m1lt, oz_ltm1, oz_lem1, oz_m1le, oz_mx, oz_mn, if_true, if_false, ite_true, ite_false, oz_md_r, oz_md_o, oz_md_w, oz_md_wo, oz_md_2, Sum.elim_inl, Sum.elim_inr, pl_0, pl_1, pl_2, pl_3, pl_4, pl_5, pl_6, pl_7, pl_8, pl_9, pl_10, pl_11, pl_12, pl_13]) (by
      intro f i x hi hx
      obtain ⟨x1, x2⟩ := x
      obtain ⟨i1, i2, i3⟩ := hx
      try dsimp only at i1 i2 i3
      have hc := oz_chg_le V hk hi
      have hI := oz_nrs_I V hk hi i2
      by_cases c : i = k
      · refine ⟨(x1, oz_nrs a k i x2), ⟨by rw [i1]; rfl, hI, i3⟩, ?_⟩
        have e : oz_nrs a k i x2 = x2 := if_pos c
        rw [e]
        cases x2 with
        | none => simp (disch := first | assumption | omega) only [f_Mod_nearest_9, lf_lt, Option.bind_some, nI_add, pk_mul, oz_sub, oz_addm1, oz_div, oz_mod, oz_ck, oz_nz, oz_le_t, oz_le_f, oz_lt_t, oz_lt_f, oz_eq_t, oz_eq_f, oz_eqm1, oz_m1eq, oz_neg1, oz_m1lt, oz_ltm1, oz_lem1, oz_m1le, oz_mx, oz_mn, if_true, if_false, ite_true, ite_false, oz_md_r, oz_md_o, oz_md_w, oz_md_wo, oz_md_2, Sum.elim_inl, Sum.elim_inr, pl_0, pl_1, pl_2, pl_3, pl_4, pl_5, pl_6, pl_7, pl_8, pl_9, pl_10, pl_11, pl_12, pl_13, pl_2000000000]
        | some y =>
          obtain ⟨f2, l2'⟩ := y
          have i2' := i2 f2 l2' rfl
          simp (disch := first | assumption | omega) only [f_Mod_nearest_9, lf_lt, Option.bind_some, nI_add, pk_mul, oz_sub, oz_addm1, oz_div, oz_mod, oz_ck, oz_nz, oz_le_t, oz_le_f, oz_lt_t, oz_lt_f, oz_eq_t, oz_eq_f, oz_eqm1, oz_m1eq, oz_neg1, oz_m1lt, oz_ltm1, oz_lem1, oz_m1le, oz_mx, oz_mn, if_true, if_false, ite_true, ite_false, oz_md_r, oz_md_o, oz_md_w, oz_md_wo, oz_md_2, Sum.elim_inl, Sum.elim_inr, pl_0, pl_1, pl_2, pl_3, pl_4, pl_5, pl_6, pl_7, pl_8, pl_9, pl_10, pl_11, pl_12, pl_13, pl_2000000000]
      · obtain ⟨u, l1, l2⟩ := m_changeOf (s := x1) V hk hi
        refine ⟨(u, oz_nrs a k i x2), ⟨by rw [i1]; rfl, hI, oz_fr_tr i3 l2⟩, ?_⟩
        cases x2 with
        | none =>
          have e : oz_nrs a k i none = some (i, oz_chg a k i) := if_neg c
          rw [e]
          simp only [Option.map_none, Option.map_some, oz_en]
          simp (disch := first | assumption | omega) only [f_Mod_nearest_9, lf_lt, Option.bind_some, nI_add, pk_mul, oz_sub, oz_addm1, oz_div, oz_mod, oz_ck, oz_nz, oz_le_t, oz_le_f, oz_lt_t, oz_lt_f, oz_eq_t, oz_eq_f, oz_eqm1, oz_m1eq, oz_neg1, oz_m1lt, oz_ltm1, oz_lem1, oz_m1le, oz_mx, oz_mn, if_true, if_false, ite_true, ite_false, oz_md_r, oz_md_o, oz_md_w, oz_md_wo, oz_md_2, Sum.elim_inl, Sum.elim_inr, pl_0, pl_1, pl_2, pl_3, pl_4, pl_5, pl_6, pl_7, pl_8, pl_9, pl_10, pl_11, pl_12, pl_13, pl_2000000000, l1]
        | some y =>
          obtain ⟨f2, l2'⟩ := y
          have i2' := i2 f2 l2' rfl
          have e : oz_nrs a k i (some (f2, l2')) = if oz_chg a k i < l2' then some (i, oz_chg a k i) else some (f2, l2') := if_neg c
          rw [e]
          simp only [Option.map_some, oz_en]
          by_cases c2 : oz_chg a k i < l2'
          · rw [if_pos c2]
            simp (disch := first | assumption | omega) only [f_Mod_nearest_9, lf_lt, Option.bind_some, nI_add, pk_mul, oz_sub, oz_addm1, oz_div, oz_mod, oz_ck, oz_nz, oz_le_t, oz_le_f, oz_lt_t, oz_lt_f, oz_eq_t, oz_eq_f, oz_eqm1, oz_m1eq, oz_neg1, oz_m1lt, oz_ltm1, oz_lem1, oz_m1le, oz_mx, oz_mn, if_true, if_false, ite_true, ite_false, oz_md_r, oz_md_o, oz_md_w, oz_md_wo, oz_md_2, Sum.elim_inl, Sum.elim_inr, pl_0, pl_1, pl_2, pl_3, pl_4, pl_5, pl_6, pl_7, pl_8, pl_9, pl_10, pl_11, pl_12, pl_13, pl_2000000000, l1]
            rfl
          · rw [if_neg c2]
            simp (disch := first | assumption | omega) only [f_Mod_nearest_9, lf_lt, Option.bind_some, nI_add, pk_mul, oz_sub, oz_addm1, oz_div, oz_mod, oz_ck, oz_nz, oz_le_t, oz_le_f, oz_lt_t, oz_lt_f, oz_eq_t, oz_eq_f, oz_eqm1, oz_m1eq, oz_neg1, oz_m1lt, oz_ltm1, oz_lem1, oz_m1le, oz_mx, oz_mn, if_true, if_false, ite_true, ite_false, oz_md_r, oz_md_o, oz_md_w, oz_md_wo, oz_md_2, Sum.elim_inl, Sum.elim_inr, pl_0, pl_1, pl_2, pl_3, pl_4, pl_5, pl_6, pl_7, pl_8, pl_9, pl_10, pl_11, pl_12, pl_13, pl_2000000000, l1]
            rfl) (a 4) 0 5000 (s, none) (by omega) (by omega) ⟨rfl, (fun f l h => by cases h), oz_fr_rf⟩
  obtain ⟨y1, y2⟩ := y
  try dsimp only at k1 g1 g2 g3
  refine ⟨y1, ?_, g3⟩
  unfold f_Mod_nearest
  have e0 : oz_en ((none : Option (Nat × Nat)).map Prod.fst) = oz_N := rfl
  rw [e0] at k1
  simp only [lf_lt, pl_0, pl_1, oz_neg1, pl_2000000000, k1, Option.bind_some, g1]; rfl
end
