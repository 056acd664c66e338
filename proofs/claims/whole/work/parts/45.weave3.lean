/-! ===== the rest of a weave ===== -/
theorem oz_fst_succ {P : Nat → Bool} : ∀ m j, oz_fst P j (m + 1) = (oz_fst P j m).or (if P (j + m) then some (j + m) else none) := by
  intro m
  induction m with
  | zero => intro j; show (if P j then some j else none) = Option.or none _; rw [Nat.add_zero, Option.none_or]
  | succ m ih =>
    intro j
    rw [show oz_fst P j (m + 1 + 1) = if P j then some j else oz_fst P (j + 1) (m + 1) from rfl, show oz_fst P j (m + 1) = if P j then some j else oz_fst P (j + 1) m from rfl]
    cases P j with
    | true => rfl
    | false =>
      rw [if_neg (by simp), if_neg (by simp), ih (j + 1), show j + 1 + m = j + (m + 1) by omega]
section
variable {s : lf_S} {q : Nat} {a : Nat → Nat} {k : Nat}
theorem c_dropOf (V : oz_V a) (C : oz_CK s q a) (hk : k < a 4) : f_Baskets_dropOf q (nI k) s = some (nI (oz_drop a k)) := by
  have h0 := oz_v0 V
  unfold oz_V0 at h0
  have h2 := oz_v2 V hk
  unfold oz_V2 at h2
  have key := (oz_forI (N := oz_bas a k 0) (fun _ x => x ≤ oz_bas a k 1) (fun f i (x : Nat) => f_Baskets_dropOf_4 q (nI k) f (nI x) (nI i) s) (fun t x => max x (oz_la (fun r => oz_ov a k (t + r * oz_bas a k 0)) (oz_bas a k 1)).1) nI 0 (Nat.zero_le _) (by
      intro i x hi hx
      have hl := (oz_la_le (g := fun r => oz_ov a k (i + r * oz_bas a k 0)) (n := oz_bas a k 1)).1
      exact Nat.max_le.mpr ⟨hx, hl⟩) (by
      intro f x hx
      simp (disch := first | assumption | omega) only [f_Baskets_dropOf_4, lf_lt, Option.bind_some, nI_add, pk_mul, oz_sub, oz_addm1, oz_div, oz_mod, oz_ck, oz_nz, oz_le_t, oz_le_f, oz_lt_t, oz_lt_f, oz_eq_t, oz_eq_f, oz_eqm1, oz_m1eq, oz_m1lt, oz_ltm1, oz_lem1, oz_m1le, oz_mx, oz_mn, if_true, if_false, ite_true, ite_false, oz_md_r, oz_md_o, oz_md_w, oz_md_wo, oz_md_2, Sum.elim_inl, Sum.elim_inr, pl_0, pl_1, pl_2, pl_3, pl_4, pl_5, pl_6, pl_7, pl_8, pl_9, pl_10, pl_11, pl_12, pl_13, k_1 C hk]) (by
      intro f i x hi hx
      have hl := (oz_la_le (g := fun r => oz_ov a k (i + r * oz_bas a k 0)) (n := oz_bas a k 1)).1
      simp (disch := first | assumption | omega) only [f_Baskets_dropOf_4, lf_lt, Option.bind_some, nI_add, pk_mul, oz_sub, oz_addm1, oz_div, oz_mod, oz_ck, oz_nz, oz_le_t, oz_le_f, oz_lt_t, oz_lt_f, oz_eq_t, oz_eq_f, oz_eqm1, oz_m1eq, oz_m1lt, oz_ltm1, oz_lem1, oz_m1le, oz_mx, oz_mn, if_true, if_false, ite_true, ite_false, oz_md_r, oz_md_o, oz_md_w, oz_md_wo, oz_md_2, Sum.elim_inl, Sum.elim_inr, pl_0, pl_1, pl_2, pl_3, pl_4, pl_5, pl_6, pl_7, pl_8, pl_9, pl_10, pl_11, pl_12, pl_13, k_1 C hk, k_2 C hk, c_longestAlike V C hk]) 5000 (by omega)).1
  unfold f_Baskets_dropOf
  try dsimp only at key
  simp only [lf_lt, pl_0, key, Option.bind_some]; rfl
theorem m_isSame (V : oz_V a) (hk : k < a 4) {r t : Nat} (hr : 1 ≤ r) (hr2 : r ≤ 20) (ht : t ≤ 24) : f_Mod_isSame (nI k) (nI r) (nI t) (oz_md s a) = some (oz_same a k r t) := by
  have h0 := oz_v0 V
  unfold oz_V0 at h0
  have h2 := oz_v2 V hk
  unfold oz_V2 at h2
  have hm : r * oz_bas a k 0 ≤ 20 * 24 := Nat.mul_le_mul (by omega) (by omega)
  have hm2 : 1 * oz_bas a k 0 ≤ r * oz_bas a k 0 := Nat.mul_le_mul_right _ hr
  unfold f_Mod_isSame
  simp (disch := first | assumption | omega) only [lf_lt, Option.bind_some, nI_add, pk_mul, oz_sub, oz_addm1, oz_div, oz_mod, oz_ck, oz_nz, oz_le_t, oz_le_f, oz_lt_t, oz_lt_f, oz_eq_t, oz_eq_f, oz_eqm1, oz_m1eq, oz_m1lt, oz_ltm1, oz_lem1, oz_m1le, oz_mx, oz_mn, if_true, if_false, ite_true, ite_false, oz_md_r, oz_md_o, oz_md_w, oz_md_wo, oz_md_2, Sum.elim_inl, Sum.elim_inr, pl_0, pl_1, pl_2, pl_3, pl_4, pl_5, pl_6, pl_7, pl_8, pl_9, pl_10, pl_11, pl_12, pl_13, m_ofBasket, m_isOver V hk, oz_same]
  by_cases c : oz_ov a k (r * oz_bas a k 0 + t) = oz_ov a k (r * oz_bas a k 0 + t - oz_bas a k 0)
  · rw [if_pos c, c]; simp
  · rw [if_neg c]; simp [c]
/-- a stake's longest, told from a greater one on -/
theorem oz_las_max {g : Nat → Bool} {m n : Nat} : oz_it (fun i (x : Nat × Nat) => (max x.1 (if 0 < i ∧ g i = g (i - 1) then x.2 + 1 else 1), if 0 < i ∧ g i = g (i - 1) then x.2 + 1 else 1)) n (m, 0) = (max m (oz_la g n).1, (oz_la g n).2) := by
  induction n with
  | zero => show (m, 0) = (max m 0, 0); rw [Nat.max_zero]
  | succ n ih =>
    have e : oz_la g (n + 1) = oz_las g n (oz_la g n) := rfl
    show (_, _) = _
    rw [ih, e]
    unfold oz_las
    try dsimp only
    rw [Nat.max_assoc]
theorem oz_same_at {r t : Nat} (hr : 0 < r) : oz_same a k r t = (oz_ov a k (t + r * oz_bas a k 0) == oz_ov a k (t + (r - 1) * oz_bas a k 0)) := by
  unfold oz_same
  have e : (r - 1) * oz_bas a k 0 + oz_bas a k 0 = r * oz_bas a k 0 := by
    have := Nat.succ_mul (r - 1) (oz_bas a k 0)
    rw [show (r - 1).succ = r by omega] at this
    exact this.symm
  rw [show r * oz_bas a k 0 + t = t + r * oz_bas a k 0 by omega, show t + r * oz_bas a k 0 - oz_bas a k 0 = t + (r - 1) * oz_bas a k 0 by omega]
theorem m_dropOf (V : oz_V a) (hk : k < a 4) : f_Mod_dropOf (nI k) (oz_md s a) = some (nI (oz_drop a k)) := by
  have h0 := oz_v0 V
  unfold oz_V0 at h0
  have h2 := oz_v2 V hk
  unfold oz_V2 at h2
  have inner : ∀ t m, t ≤ 24 → m ≤ 20 → f_Mod_dropOf_20 (nI k) (nI t) 5000 (nI m) (nI 0) (nI 0) (oz_md s a) = some (nI (max m (oz_la (fun r => oz_ov a k (t + r * oz_bas a k 0)) (oz_bas a k 1)).1)) := by
    intro t m ht hm
    have key := (oz_forI (N := oz_bas a k 1) (fun i x => x.1 ≤ 20 ∧ x.2 ≤ i) (fun f i (x : Nat × Nat) => f_Mod_dropOf_20 (nI k) (nI t) f (nI x.1) (nI x.2) (nI i) (oz_md s a)) (fun i (x : Nat × Nat) => (max x.1 (if 0 < i ∧ (fun r => oz_ov a k (t + r * oz_bas a k 0)) i = (fun r => oz_ov a k (t + r * oz_bas a k 0)) (i - 1) then x.2 + 1 else 1), if 0 < i ∧ (fun r => oz_ov a k (t + r * oz_bas a k 0)) i = (fun r => oz_ov a k (t + r * oz_bas a k 0)) (i - 1) then x.2 + 1 else 1)) (fun x => nI x.1) (m, 0) ⟨hm, Nat.le_refl _⟩ (by
        intro i x hi hx
        try dsimp only
        split <;> omega) (by
        intro f x hx
        simp (disch := first | assumption | omega) only [f_Mod_dropOf_20, lf_lt, Option.bind_some, nI_add, pk_mul, oz_sub, oz_addm1, oz_div, oz_mod, oz_ck, oz_nz, oz_le_t, oz_le_f, oz_lt_t, oz_lt_f, oz_eq_t, oz_eq_f, oz_eqm1, oz_m1eq, oz_m1lt, oz_ltm1, oz_lem1, oz_m1le, oz_mx, oz_mn, if_true, if_false, ite_true, ite_false, oz_md_r, oz_md_o, oz_md_w, oz_md_wo, oz_md_2, Sum.elim_inl, Sum.elim_inr, pl_0, pl_1, pl_2, pl_3, pl_4, pl_5, pl_6, pl_7, pl_8, pl_9, pl_10, pl_11, pl_12, pl_13, m_ofBasket]) (by
        intro f i x hi hx
        try dsimp only
        by_cases c0 : i = 0
        · subst c0
          simp (disch := first | assumption | omega) only [f_Mod_dropOf_20, lf_lt, Option.bind_some, nI_add, pk_mul, oz_sub, oz_addm1, oz_div, oz_mod, oz_ck, oz_nz, oz_le_t, oz_le_f, oz_lt_t, oz_lt_f, oz_eq_t, oz_eq_f, oz_eqm1, oz_m1eq, oz_m1lt, oz_ltm1, oz_lem1, oz_m1le, oz_mx, oz_mn, if_true, if_false, ite_true, ite_false, oz_md_r, oz_md_o, oz_md_w, oz_md_wo, oz_md_2, Sum.elim_inl, Sum.elim_inr, pl_0, pl_1, pl_2, pl_3, pl_4, pl_5, pl_6, pl_7, pl_8, pl_9, pl_10, pl_11, pl_12, pl_13, m_ofBasket, m_greater]
          simp
        · simp (disch := first | assumption | omega) only [f_Mod_dropOf_20, lf_lt, Option.bind_some, nI_add, pk_mul, oz_sub, oz_addm1, oz_div, oz_mod, oz_ck, oz_nz, oz_le_t, oz_le_f, oz_lt_t, oz_lt_f, oz_eq_t, oz_eq_f, oz_eqm1, oz_m1eq, oz_m1lt, oz_ltm1, oz_lem1, oz_m1le, oz_mx, oz_mn, if_true, if_false, ite_true, ite_false, oz_md_r, oz_md_o, oz_md_w, oz_md_wo, oz_md_2, Sum.elim_inl, Sum.elim_inr, pl_0, pl_1, pl_2, pl_3, pl_4, pl_5, pl_6, pl_7, pl_8, pl_9, pl_10, pl_11, pl_12, pl_13, m_ofBasket, m_greater, m_isSame V hk, oz_same_at]
          by_cases c : oz_ov a k (t + i * oz_bas a k 0) = oz_ov a k (t + (i - 1) * oz_bas a k 0)
          · rw [if_pos (by rw [c]; simp), if_pos ⟨by omega, c⟩]
          · rw [if_neg (by simp [c]), if_neg (fun h => c h.2)]) 5000 (by omega)).1
    rw [oz_las_max] at key
    exact key
  have key := (oz_forI (N := oz_bas a k 0) (fun _ x => x ≤ oz_bas a k 1) (fun f i (x : Nat) => f_Mod_dropOf_4 (nI k) f (nI x) (nI i) (oz_md s a)) (fun t x => max x (oz_la (fun r => oz_ov a k (t + r * oz_bas a k 0)) (oz_bas a k 1)).1) nI 0 (Nat.zero_le _) (by
      intro i x hi hx
      have hl := (oz_la_le (g := fun r => oz_ov a k (i + r * oz_bas a k 0)) (n := oz_bas a k 1)).1
      exact Nat.max_le.mpr ⟨hx, hl⟩) (by
      intro f x hx
      simp (disch := first | assumption | omega) only [f_Mod_dropOf_4, lf_lt, Option.bind_some, nI_add, pk_mul, oz_sub, oz_addm1, oz_div, oz_mod, oz_ck, oz_nz, oz_le_t, oz_le_f, oz_lt_t, oz_lt_f, oz_eq_t, oz_eq_f, oz_eqm1, oz_m1eq, oz_m1lt, oz_ltm1, oz_lem1, oz_m1le, oz_mx, oz_mn, if_true, if_false, ite_true, ite_false, oz_md_r, oz_md_o, oz_md_w, oz_md_wo, oz_md_2, Sum.elim_inl, Sum.elim_inr, pl_0, pl_1, pl_2, pl_3, pl_4, pl_5, pl_6, pl_7, pl_8, pl_9, pl_10, pl_11, pl_12, pl_13, m_ofBasket]) (by
      intro f i x hi hx
      simp (disch := first | assumption | omega) only [f_Mod_dropOf_4, lf_lt, Option.bind_some, nI_add, pk_mul, oz_sub, oz_addm1, oz_div, oz_mod, oz_ck, oz_nz, oz_le_t, oz_le_f, oz_lt_t, oz_lt_f, oz_eq_t, oz_eq_f, oz_eqm1, oz_m1eq, oz_m1lt, oz_ltm1, oz_lem1, oz_m1le, oz_mx, oz_mn, if_true, if_false, ite_true, ite_false, oz_md_r, oz_md_o, oz_md_w, oz_md_wo, oz_md_2, Sum.elim_inl, Sum.elim_inr, pl_0, pl_1, pl_2, pl_3, pl_4, pl_5, pl_6, pl_7, pl_8, pl_9, pl_10, pl_11, pl_12, pl_13, m_ofBasket, inner]) 5000 (by omega)).1
  unfold f_Mod_dropOf
  try dsimp only at key
  simp only [lf_lt, pl_0, key, Option.bind_some]; rfl
theorem c_isBlind (V : oz_V a) (C : oz_CK s q a) (hk : k < a 4) {r : Nat} (hr : 1 ≤ r) (hr2 : r ≤ 20) : f_Baskets_isBlind q (nI k) (nI r) s = some (oz_isbl a k r) := by
  have h0 := oz_v0 V
  unfold oz_V0 at h0
  have h2 := oz_v2 V hk
  unfold oz_V2 at h2
  have hm : r * oz_bas a k 0 ≤ 20 * 24 := Nat.mul_le_mul (by omega) (by omega)
  have hm2 : 1 * oz_bas a k 0 ≤ r * oz_bas a k 0 := Nat.mul_le_mul_right _ hr
  have key := oz_search (N := oz_bas a k 0) (fun f i => f_Baskets_isBlind_2 q (nI k) (nI r) f (nI i) s) (fun t => !oz_same a k r t) (Sum.inl ()) (fun _ => Sum.inr false) (by
      intro f
      simp (disch := first | assumption | omega) only [f_Baskets_isBlind_2, lf_lt, Option.bind_some, nI_add, pk_mul, oz_sub, oz_addm1, oz_div, oz_mod, oz_ck, oz_nz, oz_le_t, oz_le_f, oz_lt_t, oz_lt_f, oz_eq_t, oz_eq_f, oz_eqm1, oz_m1eq, oz_m1lt, oz_ltm1, oz_lem1, oz_m1le, oz_mx, oz_mn, if_true, if_false, ite_true, ite_false, oz_md_r, oz_md_o, oz_md_w, oz_md_wo, oz_md_2, Sum.elim_inl, Sum.elim_inr, pl_0, pl_1, pl_2, pl_3, pl_4, pl_5, pl_6, pl_7, pl_8, pl_9, pl_10, pl_11, pl_12, pl_13, k_1 C hk]) (by
      intro f i hi
      simp (disch := first | assumption | omega) only [f_Baskets_isBlind_2, lf_lt, Option.bind_some, nI_add, pk_mul, oz_sub, oz_addm1, oz_div, oz_mod, oz_ck, oz_nz, oz_le_t, oz_le_f, oz_lt_t, oz_lt_f, oz_eq_t, oz_eq_f, oz_eqm1, oz_m1eq, oz_m1lt, oz_ltm1, oz_lem1, oz_m1le, oz_mx, oz_mn, if_true, if_false, ite_true, ite_false, oz_md_r, oz_md_o, oz_md_w, oz_md_wo, oz_md_2, Sum.elim_inl, Sum.elim_inr, pl_0, pl_1, pl_2, pl_3, pl_4, pl_5, pl_6, pl_7, pl_8, pl_9, pl_10, pl_11, pl_12, pl_13, k_1 C hk, c_over V C hk]
      by_cases c : oz_ov a k (r * oz_bas a k 0 + i) = oz_ov a k (r * oz_bas a k 0 + i - oz_bas a k 0)
      · rw [if_pos c, if_neg (by unfold oz_same; simp [c])]
      · rw [if_neg c, if_pos (by unfold oz_same; simp [c])]) (oz_bas a k 0) 0 5000 (by omega) (by omega)
  unfold f_Baskets_isBlind
  try dsimp only at key
  simp only [lf_lt, pl_0, key, Option.bind_some, oz_isbl]
  cases oz_fst (fun t => !oz_same a k r t) 0 (oz_bas a k 0) <;> rfl
theorem oz_blind_it {g : Nat → Nat} : ∀ n, oz_it (fun i x => x + g (i + 1)) n 0 = oz_sum (fun i => g (i + 1)) n := fun n => oz_it_sum
theorem oz_blind_le : ∀ n, oz_sum (fun r => if oz_isbl a k (r + 1) then 1 else 0) n ≤ n := by
  intro n
  have := oz_sum_le (f := fun r => if oz_isbl a k (r + 1) then 1 else 0) (N := n) (B := 1) (fun i _ => by split <;> omega)
  omega
theorem c_blindOf (V : oz_V a) (C : oz_CK s q a) (hk : k < a 4) : f_Baskets_blindOf q (nI k) s = some (nI (oz_blind a k)) := by
  have h0 := oz_v0 V
  unfold oz_V0 at h0
  have h2 := oz_v2 V hk
  unfold oz_V2 at h2
  have key := (oz_forI (N := oz_bas a k 1 - 1) (fun i x => x ≤ i) (fun f i (x : Nat) => f_Baskets_blindOf_4 q (nI k) f (nI x) (nI (i + 1)) s) (fun i x => x + if oz_isbl a k (i + 1) then 1 else 0) nI 0 (Nat.le_refl _) (by
      intro i x hi hx
      try dsimp only
      split <;> omega) (by
      intro f x hx
      simp (disch := first | assumption | omega) only [f_Baskets_blindOf_4, lf_lt, Option.bind_some, nI_add, pk_mul, oz_sub, oz_addm1, oz_div, oz_mod, oz_ck, oz_nz, oz_le_t, oz_le_f, oz_lt_t, oz_lt_f, oz_eq_t, oz_eq_f, oz_eqm1, oz_m1eq, oz_m1lt, oz_ltm1, oz_lem1, oz_m1le, oz_mx, oz_mn, if_true, if_false, ite_true, ite_false, oz_md_r, oz_md_o, oz_md_w, oz_md_wo, oz_md_2, Sum.elim_inl, Sum.elim_inr, pl_0, pl_1, pl_2, pl_3, pl_4, pl_5, pl_6, pl_7, pl_8, pl_9, pl_10, pl_11, pl_12, pl_13, k_2 C hk]) (by
      intro f i x hi hx
      simp (disch := first | assumption | omega) only [f_Baskets_blindOf_4, lf_lt, Option.bind_some, nI_add, pk_mul, oz_sub, oz_addm1, oz_div, oz_mod, oz_ck, oz_nz, oz_le_t, oz_le_f, oz_lt_t, oz_lt_f, oz_eq_t, oz_eq_f, oz_eqm1, oz_m1eq, oz_m1lt, oz_ltm1, oz_lem1, oz_m1le, oz_mx, oz_mn, if_true, if_false, ite_true, ite_false, oz_md_r, oz_md_o, oz_md_w, oz_md_wo, oz_md_2, Sum.elim_inl, Sum.elim_inr, pl_0, pl_1, pl_2, pl_3, pl_4, pl_5, pl_6, pl_7, pl_8, pl_9, pl_10, pl_11, pl_12, pl_13, k_2 C hk, c_isBlind V C hk]
      cases oz_isbl a k (i + 1) <;> rfl) 5000 (by omega)).1
  rw [oz_it_sum (f := fun i => if oz_isbl a k (i + 1) then 1 else 0)] at key
  unfold f_Baskets_blindOf
  try dsimp only at key
  simp only [lf_lt, pl_0, pl_1, Nat.zero_add] at key ⊢
  simp only [key, Option.bind_some]; rfl
theorem m_blindIn (V : oz_V a) (hk : k < a 4) (c2 : Int32) {r : Nat} (hr : 1 ≤ r) (hr2 : r ≤ 20) : f_Mod_blindOf_20 (nI k) c2 (nI r) 5000 (nI 1) (nI 0) (oz_md s a) = some (nI (if oz_isbl a k r then 1 else 0)) := by
  have h0 := oz_v0 V
  unfold oz_V0 at h0
  have h2 := oz_v2 V hk
  unfold oz_V2 at h2
  have key := (oz_forI (N := oz_bas a k 0) (fun i x => x = if (oz_fst (fun t => !oz_same a k r t) 0 i).isNone then 1 else 0) (fun f i (x : Nat) => f_Mod_blindOf_20 (nI k) c2 (nI r) f (nI x) (nI i) (oz_md s a)) (fun i x => if x = 0 then 0 else if oz_same a k r i then 1 else 0) nI 1 rfl (by
      intro i x hi hx
      rw [oz_fst_succ i 0, Nat.zero_add]
      subst hx
      cases oz_fst (fun t => !oz_same a k r t) 0 i with
      | some v => simp
      | none => cases oz_same a k r i <;> simp) (by
      intro f x hx
      simp (disch := first | assumption | omega) only [f_Mod_blindOf_20, lf_lt, Option.bind_some, nI_add, pk_mul, oz_sub, oz_addm1, oz_div, oz_mod, oz_ck, oz_nz, oz_le_t, oz_le_f, oz_lt_t, oz_lt_f, oz_eq_t, oz_eq_f, oz_eqm1, oz_m1eq, oz_m1lt, oz_ltm1, oz_lem1, oz_m1le, oz_mx, oz_mn, if_true, if_false, ite_true, ite_false, oz_md_r, oz_md_o, oz_md_w, oz_md_wo, oz_md_2, Sum.elim_inl, Sum.elim_inr, pl_0, pl_1, pl_2, pl_3, pl_4, pl_5, pl_6, pl_7, pl_8, pl_9, pl_10, pl_11, pl_12, pl_13, m_ofBasket]) (by
      intro f i x hi hx
      by_cases c : x = 0
      · subst c
        simp (disch := first | assumption | omega) only [f_Mod_blindOf_20, lf_lt, Option.bind_some, nI_add, pk_mul, oz_sub, oz_addm1, oz_div, oz_mod, oz_ck, oz_nz, oz_le_t, oz_le_f, oz_lt_t, oz_lt_f, oz_eq_t, oz_eq_f, oz_eqm1, oz_m1eq, oz_m1lt, oz_ltm1, oz_lem1, oz_m1le, oz_mx, oz_mn, if_true, if_false, ite_true, ite_false, oz_md_r, oz_md_o, oz_md_w, oz_md_wo, oz_md_2, Sum.elim_inl, Sum.elim_inr, pl_0, pl_1, pl_2, pl_3, pl_4, pl_5, pl_6, pl_7, pl_8, pl_9, pl_10, pl_11, pl_12, pl_13, m_ofBasket]
      · have hx1 : x = 1 := by
          rw [hx] at c ⊢
          split at c
          · rw [if_pos (by assumption)]
          · exact absurd rfl c
        subst hx1
        simp (disch := first | assumption | omega) only [f_Mod_blindOf_20, lf_lt, Option.bind_some, nI_add, pk_mul, oz_sub, oz_addm1, oz_div, oz_mod, oz_ck, oz_nz, oz_le_t, oz_le_f, oz_lt_t, oz_lt_f, oz_eq_t, oz_eq_f, oz_eqm1, oz_m1eq, oz_m1lt, oz_ltm1, oz_lem1, oz_m1le, oz_mx, oz_mn, if_true, if_false, ite_true, ite_false, oz_md_r, oz_md_o, oz_md_w, oz_md_wo, oz_md_2, Sum.elim_inl, Sum.elim_inr, pl_0, pl_1, pl_2, pl_3, pl_4, pl_5, pl_6, pl_7, pl_8, pl_9, pl_10, pl_11, pl_12, pl_13, m_ofBasket, m_isSame V hk]
        cases oz_same a k r i <;> simp) 5000 (by omega))
  rw [key.1, key.2]; rfl
theorem m_blindOf (V : oz_V a) (hk : k < a 4) : f_Mod_blindOf (nI k) (oz_md s a) = some (nI (oz_blind a k)) := by
  have h0 := oz_v0 V
  unfold oz_V0 at h0
  have h2 := oz_v2 V hk
  unfold oz_V2 at h2
  have key := (oz_forI (N := oz_bas a k 1 - 1) (fun i x => x ≤ i) (fun f i (x : Nat) => f_Mod_blindOf_4 (nI k) f (nI x) (nI (i + 1)) (oz_md s a)) (fun i x => x + if oz_isbl a k (i + 1) then 1 else 0) nI 0 (Nat.le_refl _) (by
      intro i x hi hx
      try dsimp only
      split <;> omega) (by
      intro f x hx
      simp (disch := first | assumption | omega) only [f_Mod_blindOf_4, lf_lt, Option.bind_some, nI_add, pk_mul, oz_sub, oz_addm1, oz_div, oz_mod, oz_ck, oz_nz, oz_le_t, oz_le_f, oz_lt_t, oz_lt_f, oz_eq_t, oz_eq_f, oz_eqm1, oz_m1eq, oz_m1lt, oz_ltm1, oz_lem1, oz_m1le, oz_mx, oz_mn, if_true, if_false, ite_true, ite_false, oz_md_r, oz_md_o, oz_md_w, oz_md_wo, oz_md_2, Sum.elim_inl, Sum.elim_inr, pl_0, pl_1, pl_2, pl_3, pl_4, pl_5, pl_6, pl_7, pl_8, pl_9, pl_10, pl_11, pl_12, pl_13, m_ofBasket]) (by
      intro f i x hi hx
      simp (disch := first | assumption | omega) only [f_Mod_blindOf_4, lf_lt, Option.bind_some, nI_add, pk_mul, oz_sub, oz_addm1, oz_div, oz_mod, oz_ck, oz_nz, oz_le_t, oz_le_f, oz_lt_t, oz_lt_f, oz_eq_t, oz_eq_f, oz_eqm1, oz_m1eq, oz_m1lt, oz_ltm1, oz_lem1, oz_m1le, oz_mx, oz_mn, if_true, if_false, ite_true, ite_false, oz_md_r, oz_md_o, oz_md_w, oz_md_wo, oz_md_2, Sum.elim_inl, Sum.elim_inr, pl_0, pl_1, pl_2, pl_3, pl_4, pl_5, pl_6, pl_7, pl_8, pl_9, pl_10, pl_11, pl_12, pl_13, m_ofBasket, m_blindIn V hk]
      cases oz_isbl a k (i + 1) <;> rfl) 5000 (by omega)).1
  rw [oz_it_sum (f := fun i => if oz_isbl a k (i + 1) then 1 else 0)] at key
  unfold f_Mod_blindOf
  try dsimp only at key
  simp only [lf_lt, pl_0, pl_1, Nat.zero_add] at key ⊢
  simp only [key, Option.bind_some]; rfl
theorem c_fitOf (V : oz_V a) (C : oz_CK s q a) (hk : k < a 4) : f_Baskets_fitOf q (nI k) s = some (oz_fit a k) := by
  have h0 := oz_v0 V
  unfold oz_V0 at h0
  have key := oz_search (N := 25) (fun f i => f_Baskets_fitOf_2 q (nI k) f (nI i) s) (fun n => oz_loose a k n == 0) (Sum.inl ()) (fun i => Sum.inr (nI i)) (by
      intro f
      simp (disch := first | assumption | omega) only [f_Baskets_fitOf_2, lf_lt, Option.bind_some, nI_add, pk_mul, oz_sub, oz_addm1, oz_div, oz_mod, oz_ck, oz_nz, oz_le_t, oz_le_f, oz_lt_t, oz_lt_f, oz_eq_t, oz_eq_f, oz_eqm1, oz_m1eq, oz_m1lt, oz_ltm1, oz_lem1, oz_m1le, oz_mx, oz_mn, if_true, if_false, ite_true, ite_false, oz_md_r, oz_md_o, oz_md_w, oz_md_wo, oz_md_2, Sum.elim_inl, Sum.elim_inr, pl_0, pl_1, pl_2, pl_3, pl_4, pl_5, pl_6, pl_7, pl_8, pl_9, pl_10, pl_11, pl_12, pl_13, pl_24]) (by
      intro f i hi
      have hl := oz_loose_lt (a := a) (k := k) (n := i) (by omega)
      simp (disch := first | assumption | omega) only [f_Baskets_fitOf_2, lf_lt, Option.bind_some, nI_add, pk_mul, oz_sub, oz_addm1, oz_div, oz_mod, oz_ck, oz_nz, oz_le_t, oz_le_f, oz_lt_t, oz_lt_f, oz_eq_t, oz_eq_f, oz_eqm1, oz_m1eq, oz_m1lt, oz_ltm1, oz_lem1, oz_m1le, oz_mx, oz_mn, if_true, if_false, ite_true, ite_false, oz_md_r, oz_md_o, oz_md_w, oz_md_wo, oz_md_2, Sum.elim_inl, Sum.elim_inr, pl_0, pl_1, pl_2, pl_3, pl_4, pl_5, pl_6, pl_7, pl_8, pl_9, pl_10, pl_11, pl_12, pl_13, pl_24, c_looseOf V C hk]
      by_cases c : oz_loose a k i = 0
      · rw [if_pos (by rw [c]), if_pos (by simp [c])]
      · rw [if_neg (by rw [oz_eq (by omega) (by omega)]; exact c), if_neg (by simp [c])]) 22 3 5000 (by omega) (by omega)
  unfold f_Baskets_fitOf
  try dsimp only at key
  simp only [lf_lt, pl_3, key, Option.bind_some, oz_fit]
  cases oz_fst (fun n => oz_loose a k n == 0) 3 22 <;> rfl
theorem m_fitOf (V : oz_V a) (hk : k < a 4) : f_Mod_fitOf (nI k) (oz_md s a) = some (oz_fit a k) := by
  have h0 := oz_v0 V
  unfold oz_V0 at h0
  have key := oz_search (N := 25) (fun f i => f_Mod_fitOf_2 (nI k) f (nI i) (oz_md s a)) (fun n => oz_loose a k n == 0) (Sum.inl ()) (fun i => Sum.inr (nI i)) (by
      intro f
      simp (disch := first | assumption | omega) only [f_Mod_fitOf_2, lf_lt, Option.bind_some, nI_add, pk_mul, oz_sub, oz_addm1, oz_div, oz_mod, oz_ck, oz_nz, oz_le_t, oz_le_f, oz_lt_t, oz_lt_f, oz_eq_t, oz_eq_f, oz_eqm1, oz_m1eq, oz_m1lt, oz_ltm1, oz_lem1, oz_m1le, oz_mx, oz_mn, if_true, if_false, ite_true, ite_false, oz_md_r, oz_md_o, oz_md_w, oz_md_wo, oz_md_2, Sum.elim_inl, Sum.elim_inr, pl_0, pl_1, pl_2, pl_3, pl_4, pl_5, pl_6, pl_7, pl_8, pl_9, pl_10, pl_11, pl_12, pl_13, pl_25]) (by
      intro f i hi
      have hl := oz_loose_lt (a := a) (k := k) (n := i) (by omega)
      simp (disch := first | assumption | omega) only [f_Mod_fitOf_2, lf_lt, Option.bind_some, nI_add, pk_mul, oz_sub, oz_addm1, oz_div, oz_mod, oz_ck, oz_nz, oz_le_t, oz_le_f, oz_lt_t, oz_lt_f, oz_eq_t, oz_eq_f, oz_eqm1, oz_m1eq, oz_m1lt, oz_ltm1, oz_lem1, oz_m1le, oz_mx, oz_mn, if_true, if_false, ite_true, ite_false, oz_md_r, oz_md_o, oz_md_w, oz_md_wo, oz_md_2, Sum.elim_inl, Sum.elim_inr, pl_0, pl_1, pl_2, pl_3, pl_4, pl_5, pl_6, pl_7, pl_8, pl_9, pl_10, pl_11, pl_12, pl_13, pl_25, m_looseBy V hk]
      by_cases c : oz_loose a k i = 0
      · rw [if_pos (by rw [c]), if_pos (by simp [c])]
      · rw [if_neg (by rw [oz_eq (by omega) (by omega)]; exact c), if_neg (by simp [c])]) 22 3 5000 (by omega) (by omega)
  unfold f_Mod_fitOf
  try dsimp only at key
  simp only [lf_lt, pl_3, key, Option.bind_some, oz_fit]
  cases oz_fst (fun n => oz_loose a k n == 0) 3 22 <;> rfl
end
