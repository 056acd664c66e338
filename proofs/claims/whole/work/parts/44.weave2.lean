/-! ===== what is reckoned of a weave ===== -/
theorem lf_i_inj {x y : Bool} : (lf_i x = lf_i y) = (x = y) := by cases x <;> cases y <;> simp [lf_i]
theorem oz_fst_some {P : Nat → Bool} : ∀ k i j, oz_fst P i k = some j → i ≤ j ∧ j < i + k ∧ P j = true := by
  intro k
  induction k with
  | zero => intro i j h; cases h
  | succ k ih =>
    intro i j h
    unfold oz_fst at h
    cases c : P i with
    | true =>
      rw [if_pos c] at h
      cases h
      exact ⟨Nat.le_refl _, by omega, c⟩
    | false =>
      rw [if_neg (by rw [c]; simp)] at h
      obtain ⟨h1, h2, h3⟩ := ih (i + 1) j h
      exact ⟨by omega, by omega, h3⟩
theorem oz_fst_congr {P Q : Nat → Bool} : ∀ k i, (∀ j, i ≤ j → j < i + k → P j = Q j) → oz_fst P i k = oz_fst Q i k := by
  intro k
  induction k with
  | zero => intro i _; rfl
  | succ k ih =>
    intro i h
    unfold oz_fst
    rw [h i (Nat.le_refl _) (by omega), ih (i + 1) (fun j h1 h2 => h j (by omega) (by omega))]
def oz_need (a : Nat → Nat) (k : Nat) : Nat := oz_bas a k 0 + (2 * oz_bas a k 0 * oz_bas a k 1 + (12 * oz_bas a k 2 - 2) - 1) / (12 * oz_bas a k 2 - 2)
def oz_alike (a : Nat → Nat) (k m : Nat) : Bool := (oz_fst (fun p => oz_ov a k p != oz_ov a k (p + m)) 0 (oz_per a k)).isNone
def oz_again (a : Nat → Nat) (k : Nat) : Nat := (oz_fst (fun n => oz_alike a k (n * oz_bas a k 0)) 1 (oz_per a k - 1)).getD (oz_per a k)
/-- the longest of alike ones, and the last ones alike -/
def oz_las (g : Nat → Bool) (i : Nat) (x : Nat × Nat) : Nat × Nat := (max x.1 (if 0 < i ∧ g i = g (i - 1) then x.2 + 1 else 1), if 0 < i ∧ g i = g (i - 1) then x.2 + 1 else 1)
def oz_la (g : Nat → Bool) (n : Nat) : Nat × Nat := oz_it (oz_las g) n (0, 0)
theorem oz_la_le {g : Nat → Bool} {n : Nat} : (oz_la g n).1 ≤ n ∧ (oz_la g n).2 ≤ n := by
  induction n with
  | zero => exact ⟨Nat.le_refl _, Nat.le_refl _⟩
  | succ n ih =>
    show (oz_las g n (oz_la g n)).1 ≤ n + 1 ∧ (oz_las g n (oz_la g n)).2 ≤ n + 1
    unfold oz_las
    try dsimp only
    split <;> omega
/-- from the first place on -/
theorem oz_la_all {g : Nat → Bool} {n : Nat} : ((oz_la g (n + 1)).2 = n + 1 ↔ ∀ i, i ≤ n → g i = g 0) ∧ ((oz_la g (n + 1)).1 = n + 1 ↔ ∀ i, i ≤ n → g i = g 0) ∧ 1 ≤ (oz_la g (n + 1)).2 := by
  induction n with
  | zero =>
    refine ⟨⟨fun _ i hi => by rw [Nat.le_zero.mp hi], fun _ => ?_⟩, ⟨fun _ i hi => by rw [Nat.le_zero.mp hi], fun _ => ?_⟩, ?_⟩ <;> simp [oz_la, oz_it, oz_las]
  | succ n ih =>
    have e : oz_la g (n + 1 + 1) = oz_las g (n + 1) (oz_la g (n + 1)) := rfl
    have hb := oz_la_le (g := g) (n := n + 1)
    obtain ⟨i1, i2, i3⟩ := ih
    rw [e]
    unfold oz_las
    try dsimp only
    by_cases c : g (n + 1) = g (n + 1 - 1)
    · rw [if_pos ⟨by omega, c⟩]
      have hn : g (n + 1) = g n := c
      have key : (oz_la g (n + 1)).2 + 1 = n + 1 + 1 ↔ ∀ i, i ≤ n + 1 → g i = g 0 := by
        constructor
        · intro h i hi
          by_cases ci : i = n + 1
          · subst ci; rw [hn]; exact i1.mp (by omega) n (Nat.le_refl _)
          · exact i1.mp (by omega) i (by omega)
        · intro h
          have := i1.mpr (fun i hi => h i (by omega))
          omega
      refine ⟨key, ?_, by omega⟩
      rw [← key]
      omega
    · rw [if_neg (fun h => c h.2)]
      have hn : ¬ g (n + 1) = g n := c
      refine ⟨⟨fun h => by omega, fun h => absurd ((h (n + 1) (Nat.le_refl _)).trans (h n (by omega)).symm) hn⟩, ⟨fun h => by omega, fun h => absurd ((h (n + 1) (Nat.le_refl _)).trans (h n (by omega)).symm) hn⟩, Nat.le_refl _⟩
/-- alike everywhere, by counting -/
def oz_num (g : Nat → Bool) (n : Nat) : Nat := oz_sum (fun i => if g i then 1 else 0) n
theorem oz_num_le {g : Nat → Bool} {n : Nat} : oz_num g n ≤ n := by
  induction n with
  | zero => exact Nat.le_refl _
  | succ n ih => show oz_num g n + (if g n then 1 else 0) ≤ n + 1; split <;> omega
theorem oz_num_0 {g : Nat → Bool} {n : Nat} : oz_num g n = 0 ↔ ∀ i, i < n → g i = false := by
  induction n with
  | zero => exact ⟨fun _ i h => by omega, fun _ => rfl⟩
  | succ n ih =>
    show oz_num g n + (if g n then 1 else 0) = 0 ↔ _
    constructor
    · intro h i hi
      cases c : g n with
      | true => rw [c, if_pos rfl] at h; omega
      | false =>
        rw [c] at h
        by_cases ci : i = n
        · rw [ci, c]
        · exact ih.mp (by simpa using h) i (by omega)
    · intro h
      rw [ih.mpr (fun i hi => h i (by omega)), h n (by omega)]; rfl
theorem oz_num_n {g : Nat → Bool} {n : Nat} : oz_num g n = n ↔ ∀ i, i < n → g i = true := by
  induction n with
  | zero => exact ⟨fun _ i h => by omega, fun _ => rfl⟩
  | succ n ih =>
    have hl := oz_num_le (g := g) (n := n)
    show oz_num g n + (if g n then 1 else 0) = n + 1 ↔ _
    constructor
    · intro h i hi
      cases c : g n with
      | false => rw [c] at h; simp at h; omega
      | true =>
        rw [c, if_pos rfl] at h
        by_cases ci : i = n
        · rw [ci, c]
        · exact ih.mp (by omega) i (by omega)
    · intro h
      rw [ih.mpr (fun i hi => h i (by omega)), h n (by omega)]; rfl
theorem oz_la_num {g : Nat → Bool} {n : Nat} (hn : 0 < n) : decide ((oz_la g n).1 = n) = (decide (oz_num g n = 0) || decide (oz_num g n = n)) := by
  obtain ⟨m, rfl⟩ : ∃ m, n = m + 1 := ⟨n - 1, by omega⟩
  have h1 := (oz_la_all (g := g) (n := m)).2.1
  by_cases c : ∀ i, i ≤ m → g i = g 0
  · rw [decide_eq_true (h1.mpr c)]
    cases c0 : g 0 with
    | true => rw [decide_eq_true (p := oz_num g (m + 1) = m + 1) (oz_num_n.mpr (fun i hi => by rw [c i (by omega), c0])), Bool.or_true]
    | false => rw [decide_eq_true (p := oz_num g (m + 1) = 0) (oz_num_0.mpr (fun i hi => by rw [c i (by omega), c0])), Bool.true_or]
  · rw [decide_eq_false (fun h => c (h1.mp h))]
    rw [decide_eq_false (p := oz_num g (m + 1) = 0) (fun h => c (fun i hi => by rw [oz_num_0.mp h i (by omega), oz_num_0.mp h 0 (by omega)])),
      decide_eq_false (p := oz_num g (m + 1) = m + 1) (fun h => c (fun i hi => by rw [oz_num_n.mp h i (by omega), oz_num_n.mp h 0 (by omega)]))]
    rfl
def oz_loose (a : Nat → Nat) (k n : Nat) : Nat := oz_set (fun t => decide ((oz_la (fun r => oz_ov a k (t + r * n)) (oz_bas a k 1)).1 = oz_bas a k 1)) n
def oz_float (a : Nat → Nat) (k : Nat) : Nat := (oz_la (fun p => oz_ov a k (0 + p * 1)) (oz_bas a k 0 * oz_bas a k 1)).1
def oz_drop (a : Nat → Nat) (k : Nat) : Nat := oz_it (fun t x => max x (oz_la (fun r => oz_ov a k (t + r * oz_bas a k 0)) (oz_bas a k 1)).1) (oz_bas a k 0) 0
def oz_same (a : Nat → Nat) (k r t : Nat) : Bool := oz_ov a k (r * oz_bas a k 0 + t) == oz_ov a k (r * oz_bas a k 0 + t - oz_bas a k 0)
def oz_isbl (a : Nat → Nat) (k r : Nat) : Bool := (oz_fst (fun t => !oz_same a k r t) 0 (oz_bas a k 0)).isNone
/-- rounds from the first one on -/
def oz_blind (a : Nat → Nat) (k : Nat) : Nat := oz_sum (fun r => if oz_isbl a k (r + 1) then 1 else 0) (oz_bas a k 1 - 1)
def oz_fit (a : Nat → Nat) (k : Nat) : Int32 := match oz_fst (fun n => oz_loose a k n == 0) 3 22 with
  | none => (-1 : Int32)
  | some n => nI n
theorem oz_drop_le {a : Nat → Nat} {k : Nat} : ∀ n, oz_it (fun t x => max x (oz_la (fun r => oz_ov a k (t + r * oz_bas a k 0)) (oz_bas a k 1)).1) n 0 ≤ oz_bas a k 1 := by
  intro n
  induction n with
  | zero => exact Nat.zero_le _
  | succ n ih =>
    have := (oz_la_le (g := fun r => oz_ov a k (n + r * oz_bas a k 0)) (n := oz_bas a k 1)).1
    exact Nat.max_le.mpr ⟨ih, this⟩
section
variable {s : lf_S} {q : Nat} {a : Nat → Nat} {k : Nat}
theorem m_needOf (V : oz_V a) (hk : k < a 4) : f_Mod_needOf (nI k) (oz_md s a) = some (nI (oz_need a k)) := by
  have h0 := oz_v0 V
  unfold oz_V0 at h0
  have h2 := oz_v2 V hk
  unfold oz_V2 at h2
  have hm : 2 * oz_bas a k 0 * oz_bas a k 1 ≤ 48 * 20 := Nat.mul_le_mul (by omega) (by omega)
  unfold f_Mod_needOf
  simp (disch := first | assumption | omega) only [lf_lt, Option.bind_some, nI_add, pk_mul, oz_sub, oz_addm1, oz_div, oz_mod, oz_ck, oz_nz, oz_le_t, oz_le_f, oz_lt_t, oz_lt_f, oz_eq_t, oz_eq_f, oz_eqm1, oz_m1eq, oz_m1lt, oz_ltm1, oz_lem1, oz_m1le, oz_mx, oz_mn, if_true, if_false, ite_true, ite_false, oz_md_r, oz_md_o, oz_md_w, oz_md_wo, oz_md_2, Sum.elim_inl, Sum.elim_inr, pl_0, pl_1, pl_2, pl_3, pl_4, pl_5, pl_6, pl_7, pl_8, pl_9, pl_10, pl_11, pl_12, pl_13, pl_14, pl_15, pl_16, pl_17, pl_18, pl_19, pl_20, pl_21, pl_22, pl_23, pl_24, pl_25, pl_26, pl_27, pl_28, pl_29, pl_30, pl_31, pl_32, pl_33, pl_34, pl_35, pl_36, pl_37, pl_38, pl_39, pl_40, pl_41, pl_42, pl_43, pl_44, pl_45, pl_46, pl_47, pl_48, pl_49, pl_50, pl_51, pl_52, pl_53, pl_54, pl_55, pl_56, pl_57, pl_58, pl_59, pl_60, pl_61, pl_62, pl_63, pl_64, pl_65, pl_66, pl_67, pl_68, pl_69, pl_70, pl_71, pl_72, pl_73, pl_74, pl_75, pl_76, pl_77, pl_78, pl_79, pl_80, pl_81, pl_82, pl_83, pl_84, pl_85, pl_86, pl_87, pl_88, pl_89, pl_90, pl_91, pl_92, pl_93, pl_94, pl_95, pl_96, pl_97, pl_98, pl_99, pl_100, pl_101, pl_102, pl_103, pl_104, pl_105, pl_106, pl_107, pl_108, pl_109, pl_110, pl_111, pl_112, pl_113, pl_114, pl_115, pl_116, pl_117, pl_118, pl_119, pl_120, pl_121, pl_122, pl_123, pl_124, pl_125, pl_126, pl_127, pl_128, pl_129, pl_130, pl_131, pl_236, pl_239, pl_240, pl_255, pl_366, pl_384, pl_400, pl_450, pl_766, pl_999, pl_1000, pl_1001, pl_1002, pl_1003, pl_1004, pl_1005, pl_1006, pl_1007, pl_1008, pl_1009, pl_1010, pl_1011, pl_1012, pl_1013, pl_1014, pl_1015, pl_4026, pl_4392, pl_9999, pl_10000, pl_12345, pl_32767, pl_2000000000, pl_1431655765, pl_858993459, pl_252645135, pl_1103515245, m_ofBasket, oz_need]
theorem c_needOf (V : oz_V a) (C : oz_CK s q a) (hk : k < a 4) : f_Baskets_needOf q (nI k) s = some (nI (oz_need a k)) := by
  have h0 := oz_v0 V
  unfold oz_V0 at h0
  have h2 := oz_v2 V hk
  unfold oz_V2 at h2
  have e : oz_bas a k 0 * oz_bas a k 1 * 2 = 2 * oz_bas a k 0 * oz_bas a k 1 := by rw [Nat.mul_comm, ← Nat.mul_assoc]
  have hm : 2 * oz_bas a k 0 * oz_bas a k 1 ≤ 48 * 20 := Nat.mul_le_mul (by omega) (by omega)
  unfold f_Baskets_needOf
  simp (disch := first | assumption | omega) only [lf_lt, Option.bind_some, nI_add, pk_mul, oz_sub, oz_addm1, oz_div, oz_mod, oz_ck, oz_nz, oz_le_t, oz_le_f, oz_lt_t, oz_lt_f, oz_eq_t, oz_eq_f, oz_eqm1, oz_m1eq, oz_m1lt, oz_ltm1, oz_lem1, oz_m1le, oz_mx, oz_mn, if_true, if_false, ite_true, ite_false, oz_md_r, oz_md_o, oz_md_w, oz_md_wo, oz_md_2, Sum.elim_inl, Sum.elim_inr, pl_0, pl_1, pl_2, pl_3, pl_4, pl_5, pl_6, pl_7, pl_8, pl_9, pl_10, pl_11, pl_12, pl_13, pl_14, pl_15, pl_16, pl_17, pl_18, pl_19, pl_20, pl_21, pl_22, pl_23, pl_24, pl_25, pl_26, pl_27, pl_28, pl_29, pl_30, pl_31, pl_32, pl_33, pl_34, pl_35, pl_36, pl_37, pl_38, pl_39, pl_40, pl_41, pl_42, pl_43, pl_44, pl_45, pl_46, pl_47, pl_48, pl_49, pl_50, pl_51, pl_52, pl_53, pl_54, pl_55, pl_56, pl_57, pl_58, pl_59, pl_60, pl_61, pl_62, pl_63, pl_64, pl_65, pl_66, pl_67, pl_68, pl_69, pl_70, pl_71, pl_72, pl_73, pl_74, pl_75, pl_76, pl_77, pl_78, pl_79, pl_80, pl_81, pl_82, pl_83, pl_84, pl_85, pl_86, pl_87, pl_88, pl_89, pl_90, pl_91, pl_92, pl_93, pl_94, pl_95, pl_96, pl_97, pl_98, pl_99, pl_100, pl_101, pl_102, pl_103, pl_104, pl_105, pl_106, pl_107, pl_108, pl_109, pl_110, pl_111, pl_112, pl_113, pl_114, pl_115, pl_116, pl_117, pl_118, pl_119, pl_120, pl_121, pl_122, pl_123, pl_124, pl_125, pl_126, pl_127, pl_128, pl_129, pl_130, pl_131, pl_236, pl_239, pl_240, pl_255, pl_366, pl_384, pl_400, pl_450, pl_766, pl_999, pl_1000, pl_1001, pl_1002, pl_1003, pl_1004, pl_1005, pl_1006, pl_1007, pl_1008, pl_1009, pl_1010, pl_1011, pl_1012, pl_1013, pl_1014, pl_1015, pl_4026, pl_4392, pl_9999, pl_10000, pl_12345, pl_32767, pl_2000000000, pl_1431655765, pl_858993459, pl_252645135, pl_1103515245, k_1 C hk, k_2 C hk, k_3 C hk, e, oz_need]
theorem oz_need_le (V : oz_V a) (hk : k < a 4) : oz_need a k ≤ 120 := by
  have h2 := oz_v2 V hk
  unfold oz_V2 at h2
  have hm : 2 * oz_bas a k 0 * oz_bas a k 1 ≤ 48 * 20 := Nat.mul_le_mul (by omega) (by omega)
  have hd : (2 * oz_bas a k 0 * oz_bas a k 1 + (12 * oz_bas a k 2 - 2) - 1) / (12 * oz_bas a k 2 - 2) < 97 := by
    apply Nat.div_lt_of_lt_mul
    have h3 : (12 * oz_bas a k 2 - 2) * 97 = (12 * oz_bas a k 2 - 2) * 96 + (12 * oz_bas a k 2 - 2) := Nat.mul_succ _ _
    have h4 : 10 * 96 ≤ (12 * oz_bas a k 2 - 2) * 96 := Nat.mul_le_mul_right _ (by omega)
    omega
  unfold oz_need
  omega
theorem m_comesAgain (V : oz_V a) (hk : k < a 4) {n : Nat} (hn : n ≤ 24) : f_Mod_comesAgain (nI k) (nI n) (oz_md s a) = some (oz_alike a k (n * oz_bas a k 0)) := by
  have h0 := oz_v0 V
  unfold oz_V0 at h0
  have h2 := oz_v2 V hk
  unfold oz_V2 at h2
  have hper := oz_per_le V hk
  have hm : n * oz_bas a k 0 ≤ 24 * 24 := Nat.mul_le_mul (by omega) (by omega)
  have key := oz_search (N := oz_per a k) (fun f i => f_Mod_comesAgain_2 (nI k) (nI n) f (nI i) (oz_md s a)) (fun p => oz_ov a k p != oz_ov a k (p + n * oz_bas a k 0)) (Sum.inl ()) (fun _ => Sum.inr false) (by
      intro f
      simp (disch := first | assumption | omega) only [f_Mod_comesAgain_2, lf_lt, Option.bind_some, nI_add, pk_mul, oz_sub, oz_addm1, oz_div, oz_mod, oz_ck, oz_nz, oz_le_t, oz_le_f, oz_lt_t, oz_lt_f, oz_eq_t, oz_eq_f, oz_eqm1, oz_m1eq, oz_m1lt, oz_ltm1, oz_lem1, oz_m1le, oz_mx, oz_mn, if_true, if_false, ite_true, ite_false, oz_md_r, oz_md_o, oz_md_w, oz_md_wo, oz_md_2, Sum.elim_inl, Sum.elim_inr, pl_0, pl_1, pl_2, pl_3, pl_4, pl_5, pl_6, pl_7, pl_8, pl_9, pl_10, pl_11, pl_12, pl_13, m_period V hk]) (by
      intro f i hi
      simp (disch := first | assumption | omega) only [f_Mod_comesAgain_2, lf_lt, Option.bind_some, nI_add, pk_mul, oz_sub, oz_addm1, oz_div, oz_mod, oz_ck, oz_nz, oz_le_t, oz_le_f, oz_lt_t, oz_lt_f, oz_eq_t, oz_eq_f, oz_eqm1, oz_m1eq, oz_m1lt, oz_ltm1, oz_lem1, oz_m1le, oz_mx, oz_mn, if_true, if_false, ite_true, ite_false, oz_md_r, oz_md_o, oz_md_w, oz_md_wo, oz_md_2, Sum.elim_inl, Sum.elim_inr, pl_0, pl_1, pl_2, pl_3, pl_4, pl_5, pl_6, pl_7, pl_8, pl_9, pl_10, pl_11, pl_12, pl_13, m_period V hk, m_isOver V hk, m_ofBasket]
      by_cases c : oz_ov a k i = oz_ov a k (i + n * oz_bas a k 0)
      · simp [c]
      · simp [c]) (oz_per a k) 0 5000 (by omega) (by omega)
  unfold f_Mod_comesAgain
  try dsimp only at key
  simp only [lf_lt, pl_0, key, Option.bind_some, oz_alike]
  cases oz_fst (fun p => oz_ov a k p != oz_ov a k (p + n * oz_bas a k 0)) 0 (oz_per a k) <;> rfl
theorem m_againOf (V : oz_V a) (hk : k < a 4) : f_Mod_againOf (nI k) (oz_md s a) = some (nI (oz_again a k)) := by
  have h0 := oz_v0 V
  unfold oz_V0 at h0
  have hper := oz_per_le V hk
  have key := oz_search (N := oz_per a k) (fun f i => f_Mod_againOf_2 (nI k) f (nI i) (oz_md s a)) (fun n => oz_alike a k (n * oz_bas a k 0)) (Sum.inl ()) (fun i => Sum.inr (nI i)) (by
      intro f
      simp (disch := first | assumption | omega) only [f_Mod_againOf_2, lf_lt, Option.bind_some, nI_add, pk_mul, oz_sub, oz_addm1, oz_div, oz_mod, oz_ck, oz_nz, oz_le_t, oz_le_f, oz_lt_t, oz_lt_f, oz_eq_t, oz_eq_f, oz_eqm1, oz_m1eq, oz_m1lt, oz_ltm1, oz_lem1, oz_m1le, oz_mx, oz_mn, if_true, if_false, ite_true, ite_false, oz_md_r, oz_md_o, oz_md_w, oz_md_wo, oz_md_2, Sum.elim_inl, Sum.elim_inr, pl_0, pl_1, pl_2, pl_3, pl_4, pl_5, pl_6, pl_7, pl_8, pl_9, pl_10, pl_11, pl_12, pl_13, m_period V hk]) (by
      intro f i hi
      simp (disch := first | assumption | omega) only [f_Mod_againOf_2, lf_lt, Option.bind_some, nI_add, pk_mul, oz_sub, oz_addm1, oz_div, oz_mod, oz_ck, oz_nz, oz_le_t, oz_le_f, oz_lt_t, oz_lt_f, oz_eq_t, oz_eq_f, oz_eqm1, oz_m1eq, oz_m1lt, oz_ltm1, oz_lem1, oz_m1le, oz_mx, oz_mn, if_true, if_false, ite_true, ite_false, oz_md_r, oz_md_o, oz_md_w, oz_md_wo, oz_md_2, Sum.elim_inl, Sum.elim_inr, pl_0, pl_1, pl_2, pl_3, pl_4, pl_5, pl_6, pl_7, pl_8, pl_9, pl_10, pl_11, pl_12, pl_13, m_period V hk, m_comesAgain V hk]) (oz_per a k - 1) 1 5000 (by omega) (by omega)
  unfold f_Mod_againOf
  try dsimp only at key
  simp only [lf_lt, pl_1, key, Option.bind_some, oz_again]
  cases oz_fst (fun n => oz_alike a k (n * oz_bas a k 0)) 1 (oz_per a k - 1) with
  | none => simp only [Option.elim, Sum.elim_inl, m_period V hk, Option.bind_some, Option.getD]
  | some v => rfl
theorem c_isAlikeAfter (V : oz_V a) (C : oz_CK s q a) (hk : k < a 4) {m : Nat} (hm : m ≤ 600) : f_Baskets_isAlikeAfter q (nI k) (nI m) s = some (oz_alike a k m) := by
  have h0 := oz_v0 V
  unfold oz_V0 at h0
  have hper := oz_per_le V hk
  have key := oz_search (N := oz_per a k) (fun f i => f_Baskets_isAlikeAfter_2 q (nI k) (nI m) f (nI i) s) (fun p => oz_ov a k p != oz_ov a k (p + m)) (Sum.inl ()) (fun _ => Sum.inr false) (by
      intro f
      simp (disch := first | assumption | omega) only [f_Baskets_isAlikeAfter_2, lf_lt, Option.bind_some, nI_add, pk_mul, oz_sub, oz_addm1, oz_div, oz_mod, oz_ck, oz_nz, oz_le_t, oz_le_f, oz_lt_t, oz_lt_f, oz_eq_t, oz_eq_f, oz_eqm1, oz_m1eq, oz_m1lt, oz_ltm1, oz_lem1, oz_m1le, oz_mx, oz_mn, if_true, if_false, ite_true, ite_false, oz_md_r, oz_md_o, oz_md_w, oz_md_wo, oz_md_2, Sum.elim_inl, Sum.elim_inr, pl_0, pl_1, pl_2, pl_3, pl_4, pl_5, pl_6, pl_7, pl_8, pl_9, pl_10, pl_11, pl_12, pl_13, k_6 C hk]) (by
      intro f i hi
      simp (disch := first | assumption | omega) only [f_Baskets_isAlikeAfter_2, lf_lt, Option.bind_some, nI_add, pk_mul, oz_sub, oz_addm1, oz_div, oz_mod, oz_ck, oz_nz, oz_le_t, oz_le_f, oz_lt_t, oz_lt_f, oz_eq_t, oz_eq_f, oz_eqm1, oz_m1eq, oz_m1lt, oz_ltm1, oz_lem1, oz_m1le, oz_mx, oz_mn, if_true, if_false, ite_true, ite_false, oz_md_r, oz_md_o, oz_md_w, oz_md_wo, oz_md_2, Sum.elim_inl, Sum.elim_inr, pl_0, pl_1, pl_2, pl_3, pl_4, pl_5, pl_6, pl_7, pl_8, pl_9, pl_10, pl_11, pl_12, pl_13, k_6 C hk, c_over V C hk]
      by_cases c : oz_ov a k i = oz_ov a k (i + m)
      · simp [c]
      · simp [c]) (oz_per a k) 0 5000 (by omega) (by omega)
  unfold f_Baskets_isAlikeAfter
  try dsimp only at key
  simp only [lf_lt, pl_0, key, Option.bind_some, oz_alike]
  cases oz_fst (fun p => oz_ov a k p != oz_ov a k (p + m)) 0 (oz_per a k) <;> rfl
theorem c_againOf (V : oz_V a) (C : oz_CK s q a) (hk : k < a 4) : f_Baskets_againOf q (nI k) s = some (nI (oz_again a k)) := by
  have h0 := oz_v0 V
  unfold oz_V0 at h0
  have h2 := oz_v2 V hk
  unfold oz_V2 at h2
  have hper := oz_per_le V hk
  have key := oz_search (N := oz_per a k) (fun f i => f_Baskets_againOf_9 q (nI k) (nI (oz_per a k)) f (nI i) s) (fun n => oz_alike a k (n * oz_bas a k 0)) (Sum.inl ()) (fun i => Sum.inr (nI i)) (by
      intro f
      simp (disch := first | assumption | omega) only [f_Baskets_againOf_9, lf_lt, Option.bind_some, nI_add, pk_mul, oz_sub, oz_addm1, oz_div, oz_mod, oz_ck, oz_nz, oz_le_t, oz_le_f, oz_lt_t, oz_lt_f, oz_eq_t, oz_eq_f, oz_eqm1, oz_m1eq, oz_m1lt, oz_ltm1, oz_lem1, oz_m1le, oz_mx, oz_mn, if_true, if_false, ite_true, ite_false, oz_md_r, oz_md_o, oz_md_w, oz_md_wo, oz_md_2, Sum.elim_inl, Sum.elim_inr, pl_0, pl_1, pl_2, pl_3, pl_4, pl_5, pl_6, pl_7, pl_8, pl_9, pl_10, pl_11, pl_12, pl_13, k_1 C hk]) (by
      intro f i hi
      have hm : i * oz_bas a k 0 ≤ 24 * 24 := Nat.mul_le_mul (by omega) (by omega)
      simp (disch := first | assumption | omega) only [f_Baskets_againOf_9, lf_lt, Option.bind_some, nI_add, pk_mul, oz_sub, oz_addm1, oz_div, oz_mod, oz_ck, oz_nz, oz_le_t, oz_le_f, oz_lt_t, oz_lt_f, oz_eq_t, oz_eq_f, oz_eqm1, oz_m1eq, oz_m1lt, oz_ltm1, oz_lem1, oz_m1le, oz_mx, oz_mn, if_true, if_false, ite_true, ite_false, oz_md_r, oz_md_o, oz_md_w, oz_md_wo, oz_md_2, Sum.elim_inl, Sum.elim_inr, pl_0, pl_1, pl_2, pl_3, pl_4, pl_5, pl_6, pl_7, pl_8, pl_9, pl_10, pl_11, pl_12, pl_13, k_1 C hk, c_isAlikeAfter V C hk]) (oz_per a k - 1) 1 5000 (by omega) (by omega)
  unfold f_Baskets_againOf
  try dsimp only at key
  simp (disch := first | assumption | omega) only [lf_lt, Option.bind_some, nI_add, pk_mul, oz_sub, oz_addm1, oz_div, oz_mod, oz_ck, oz_nz, oz_le_t, oz_le_f, oz_lt_t, oz_lt_f, oz_eq_t, oz_eq_f, oz_eqm1, oz_m1eq, oz_m1lt, oz_ltm1, oz_lem1, oz_m1le, oz_mx, oz_mn, if_true, if_false, ite_true, ite_false, oz_md_r, oz_md_o, oz_md_w, oz_md_wo, oz_md_2, Sum.elim_inl, Sum.elim_inr, pl_0, pl_1, pl_2, pl_3, pl_4, pl_5, pl_6, pl_7, pl_8, pl_9, pl_10, pl_11, pl_12, pl_13, k_6 C hk, key, oz_again]
  cases oz_fst (fun n => oz_alike a k (n * oz_bas a k 0)) 1 (oz_per a k - 1) <;> rfl
theorem c_longestAlike (V : oz_V a) (C : oz_CK s q a) (hk : k < a 4) {p t n : Nat} (hp : p ≤ 600) (ht : t ≤ 24) (hn : n ≤ 480) : f_Baskets_longestAlike q (nI k) (nI p) (nI t) (nI n) s = some (nI (oz_la (fun i => oz_ov a k (p + i * t)) n).1) := by
  have h0 := oz_v0 V
  unfold oz_V0 at h0
  have key := (oz_forI (N := n) (fun i x => x.1 ≤ i ∧ x.2 ≤ i) (fun f i (x : Nat × Nat) => f_Baskets_longestAlike_12 q (nI k) (nI p) (nI t) (nI n) f (nI x.1) (nI x.2) (if i = 0 then nI 0 else lf_i (oz_ov a k (p + (i - 1) * t))) (nI i) s) (oz_las (fun i => oz_ov a k (p + i * t))) (fun x => nI x.1) (0, 0) ⟨Nat.le_refl _, Nat.le_refl _⟩ (by
      intro i x hi hx
      unfold oz_las
      try dsimp only
      split <;> omega) (by
      intro f x hx
      simp (disch := first | assumption | omega) only [f_Baskets_longestAlike_12, lf_lt, Option.bind_some, nI_add, pk_mul, oz_sub, oz_addm1, oz_div, oz_mod, oz_ck, oz_nz, oz_le_t, oz_le_f, oz_lt_t, oz_lt_f, oz_eq_t, oz_eq_f, oz_eqm1, oz_m1eq, oz_m1lt, oz_ltm1, oz_lem1, oz_m1le, oz_mx, oz_mn, if_true, if_false, ite_true, ite_false, oz_md_r, oz_md_o, oz_md_w, oz_md_wo, oz_md_2, Sum.elim_inl, Sum.elim_inr, pl_0, pl_1, pl_2, pl_3, pl_4, pl_5, pl_6, pl_7, pl_8, pl_9, pl_10, pl_11, pl_12, pl_13]) (by
      intro f i x hi hx
      have hm : i * t ≤ 480 * 24 := Nat.mul_le_mul (by omega) (by omega)
      by_cases c0 : i = 0
      · subst c0
        simp (disch := first | assumption | omega) only [f_Baskets_longestAlike_12, lf_lt, Option.bind_some, nI_add, pk_mul, oz_sub, oz_addm1, oz_div, oz_mod, oz_ck, oz_nz, oz_le_t, oz_le_f, oz_lt_t, oz_lt_f, oz_eq_t, oz_eq_f, oz_eqm1, oz_m1eq, oz_m1lt, oz_ltm1, oz_lem1, oz_m1le, oz_mx, oz_mn, if_true, if_false, ite_true, ite_false, oz_md_r, oz_md_o, oz_md_w, oz_md_wo, oz_md_2, Sum.elim_inl, Sum.elim_inr, pl_0, pl_1, pl_2, pl_3, pl_4, pl_5, pl_6, pl_7, pl_8, pl_9, pl_10, pl_11, pl_12, pl_13, c_over V C hk, oz_las]
        simp
      · rw [if_neg c0, if_neg (by omega : ¬ i + 1 = 0)]
        simp (disch := first | assumption | omega) only [f_Baskets_longestAlike_12, lf_lt, Option.bind_some, nI_add, pk_mul, oz_sub, oz_addm1, oz_div, oz_mod, oz_ck, oz_nz, oz_le_t, oz_le_f, oz_lt_t, oz_lt_f, oz_eq_t, oz_eq_f, oz_eqm1, oz_m1eq, oz_m1lt, oz_ltm1, oz_lem1, oz_m1le, oz_mx, oz_mn, if_true, if_false, ite_true, ite_false, oz_md_r, oz_md_o, oz_md_w, oz_md_wo, oz_md_2, Sum.elim_inl, Sum.elim_inr, pl_0, pl_1, pl_2, pl_3, pl_4, pl_5, pl_6, pl_7, pl_8, pl_9, pl_10, pl_11, pl_12, pl_13, c_over V C hk, lf_i_inj]
        unfold oz_las
        try dsimp only
        rw [Nat.add_sub_cancel]
        by_cases c : oz_ov a k (p + i * t) = oz_ov a k (p + (i - 1) * t)
        · rw [if_pos c, if_pos ⟨by omega, c⟩]
        · rw [if_neg c, if_neg (fun h => c h.2)]) 5000 (by omega)).1
  unfold f_Baskets_longestAlike
  try dsimp only at key
  rw [if_pos rfl] at key
  simp only [lf_lt, pl_0, key, Option.bind_some]; rfl
theorem c_looseOf (V : oz_V a) (C : oz_CK s q a) (hk : k < a 4) {n : Nat} (hn : n ≤ 24) : f_Baskets_looseOf q (nI k) (nI n) s = some (nI (oz_loose a k n)) := by
  have h0 := oz_v0 V
  unfold oz_V0 at h0
  have h2 := oz_v2 V hk
  unfold oz_V2 at h2
  have key := (oz_forI (N := n) (fun i x => x < 2 ^ i) (fun f i (x : Nat) => f_Baskets_looseOf_5 q (nI k) (nI n) f (nI x) (nI i) s) (fun i x => if decide ((oz_la (fun r => oz_ov a k (i + r * n)) (oz_bas a k 1)).1 = oz_bas a k 1) then x ||| 2 ^ i else x) nI 0 (by decide) (by
      intro i x hi hx
      have h3 : 2 ^ i < 2 ^ (i + 1) := Nat.pow_lt_pow_right (by omega) (by omega)
      try dsimp only
      split
      · exact Nat.or_lt_two_pow (by omega) h3
      · omega) (by
      intro f x hx
      simp (disch := first | assumption | omega) only [f_Baskets_looseOf_5, lf_lt, Option.bind_some, nI_add, pk_mul, oz_sub, oz_addm1, oz_div, oz_mod, oz_ck, oz_nz, oz_le_t, oz_le_f, oz_lt_t, oz_lt_f, oz_eq_t, oz_eq_f, oz_eqm1, oz_m1eq, oz_m1lt, oz_ltm1, oz_lem1, oz_m1le, oz_mx, oz_mn, if_true, if_false, ite_true, ite_false, oz_md_r, oz_md_o, oz_md_w, oz_md_wo, oz_md_2, Sum.elim_inl, Sum.elim_inr, pl_0, pl_1, pl_2, pl_3, pl_4, pl_5, pl_6, pl_7, pl_8, pl_9, pl_10, pl_11, pl_12, pl_13]) (by
      intro f i x hi hx
      have hl := (oz_la_le (g := fun r => oz_ov a k (i + r * n)) (n := oz_bas a k 1)).1
      have hp2 := oz_p2 i (by omega)
      simp (disch := first | assumption | omega) only [f_Baskets_looseOf_5, lf_lt, Option.bind_some, nI_add, pk_mul, oz_sub, oz_addm1, oz_div, oz_mod, oz_ck, oz_nz, oz_le_t, oz_le_f, oz_lt_t, oz_lt_f, oz_eq_t, oz_eq_f, oz_eqm1, oz_m1eq, oz_m1lt, oz_ltm1, oz_lem1, oz_m1le, oz_mx, oz_mn, if_true, if_false, ite_true, ite_false, oz_md_r, oz_md_o, oz_md_w, oz_md_wo, oz_md_2, Sum.elim_inl, Sum.elim_inr, pl_0, pl_1, pl_2, pl_3, pl_4, pl_5, pl_6, pl_7, pl_8, pl_9, pl_10, pl_11, pl_12, pl_13, pl_31, k_2 C hk, c_longestAlike V C hk]
      by_cases c : (oz_la (fun r => oz_ov a k (i + r * n)) (oz_bas a k 1)).1 = oz_bas a k 1
      · simp (disch := first | assumption | omega) only [c, oz_shl1, oz_bvor, if_true, decide_true]
      · rw [if_neg (by rw [oz_eq (by omega) (by omega)]; exact c), decide_eq_false c, if_neg (by simp)]) 5000 (by omega)).1
  rw [oz_set_it (P := fun t => decide ((oz_la (fun r => oz_ov a k (t + r * n)) (oz_bas a k 1)).1 = oz_bas a k 1))] at key
  unfold f_Baskets_looseOf
  try dsimp only at key
  simp only [lf_lt, pl_0, key, Option.bind_some]; rfl
theorem m_looseBy (V : oz_V a) (hk : k < a 4) {n : Nat} (hn : n ≤ 24) : f_Mod_looseBy (nI k) (nI n) (oz_md s a) = some (nI (oz_loose a k n)) := by
  have h0 := oz_v0 V
  unfold oz_V0 at h0
  have h2 := oz_v2 V hk
  unfold oz_V2 at h2
  have inner : ∀ c3 t, t < 24 → f_Mod_looseBy_17 (nI k) (nI n) c3 (nI t) 5000 (nI 0) (nI 0) (oz_md s a) = some (nI (oz_num (fun r => oz_ov a k (t + r * n)) (oz_bas a k 1))) := by
    intro c3 t ht
    have key := (oz_forI (N := oz_bas a k 1) (fun i x => x ≤ i) (fun f i (x : Nat) => f_Mod_looseBy_17 (nI k) (nI n) c3 (nI t) f (nI x) (nI i) (oz_md s a)) (fun i x => x + if oz_ov a k (t + i * n) then 1 else 0) nI 0 (Nat.le_refl _) (by
        intro i x hi hx
        try dsimp only
        split <;> omega) (by
        intro f x hx
        simp (disch := first | assumption | omega) only [f_Mod_looseBy_17, lf_lt, Option.bind_some, nI_add, pk_mul, oz_sub, oz_addm1, oz_div, oz_mod, oz_ck, oz_nz, oz_le_t, oz_le_f, oz_lt_t, oz_lt_f, oz_eq_t, oz_eq_f, oz_eqm1, oz_m1eq, oz_m1lt, oz_ltm1, oz_lem1, oz_m1le, oz_mx, oz_mn, if_true, if_false, ite_true, ite_false, oz_md_r, oz_md_o, oz_md_w, oz_md_wo, oz_md_2, Sum.elim_inl, Sum.elim_inr, pl_0, pl_1, pl_2, pl_3, pl_4, pl_5, pl_6, pl_7, pl_8, pl_9, pl_10, pl_11, pl_12, pl_13, m_ofBasket]) (by
        intro f i x hi hx
        have hm : i * n ≤ 20 * 24 := Nat.mul_le_mul (by omega) (by omega)
        simp (disch := first | assumption | omega) only [f_Mod_looseBy_17, lf_lt, Option.bind_some, nI_add, pk_mul, oz_sub, oz_addm1, oz_div, oz_mod, oz_ck, oz_nz, oz_le_t, oz_le_f, oz_lt_t, oz_lt_f, oz_eq_t, oz_eq_f, oz_eqm1, oz_m1eq, oz_m1lt, oz_ltm1, oz_lem1, oz_m1le, oz_mx, oz_mn, if_true, if_false, ite_true, ite_false, oz_md_r, oz_md_o, oz_md_w, oz_md_wo, oz_md_2, Sum.elim_inl, Sum.elim_inr, pl_0, pl_1, pl_2, pl_3, pl_4, pl_5, pl_6, pl_7, pl_8, pl_9, pl_10, pl_11, pl_12, pl_13, m_ofBasket, m_isOver V hk]
        rw [Nat.add_comm (i * n) t]
        cases oz_ov a k (t + i * n) <;> rfl) 5000 (by omega)).1
    rw [oz_it_sum (f := fun i => if oz_ov a k (t + i * n) then 1 else 0)] at key
    exact key
  have key := (oz_forI (N := n) (fun i x => x < 2 ^ i) (fun f i (x : Nat) => f_Mod_looseBy_5 (nI k) (nI n) f (nI x) (nI i) (oz_md s a)) (fun i x => if decide ((oz_la (fun r => oz_ov a k (i + r * n)) (oz_bas a k 1)).1 = oz_bas a k 1) then x ||| 2 ^ i else x) nI 0 (by decide) (by
      intro i x hi hx
      have h3 : 2 ^ i < 2 ^ (i + 1) := Nat.pow_lt_pow_right (by omega) (by omega)
      try dsimp only
      split
      · exact Nat.or_lt_two_pow (by omega) h3
      · omega) (by
      intro f x hx
      simp (disch := first | assumption | omega) only [f_Mod_looseBy_5, lf_lt, Option.bind_some, nI_add, pk_mul, oz_sub, oz_addm1, oz_div, oz_mod, oz_ck, oz_nz, oz_le_t, oz_le_f, oz_lt_t, oz_lt_f, oz_eq_t, oz_eq_f, oz_eqm1, oz_m1eq, oz_m1lt, oz_ltm1, oz_lem1, oz_m1le, oz_mx, oz_mn, if_true, if_false, ite_true, ite_false, oz_md_r, oz_md_o, oz_md_w, oz_md_wo, oz_md_2, Sum.elim_inl, Sum.elim_inr, pl_0, pl_1, pl_2, pl_3, pl_4, pl_5, pl_6, pl_7, pl_8, pl_9, pl_10, pl_11, pl_12, pl_13]) (by
      intro f i x hi hx
      have hl := oz_num_le (g := fun r => oz_ov a k (i + r * n)) (n := oz_bas a k 1)
      have hp2 := oz_p2 i (by omega)
      have hp3 : x < 4294967296 := Nat.lt_of_lt_of_le hx (by omega)
      rw [oz_la_num (by omega)]
      simp (disch := first | assumption | omega) only [f_Mod_looseBy_5, lf_lt, Option.bind_some, nI_add, pk_mul, oz_sub, oz_addm1, oz_div, oz_mod, oz_ck, oz_nz, oz_le_t, oz_le_f, oz_lt_t, oz_lt_f, oz_eq_t, oz_eq_f, oz_eqm1, oz_m1eq, oz_m1lt, oz_ltm1, oz_lem1, oz_m1le, oz_mx, oz_mn, if_true, if_false, ite_true, ite_false, oz_md_r, oz_md_o, oz_md_w, oz_md_wo, oz_md_2, Sum.elim_inl, Sum.elim_inr, pl_0, pl_1, pl_2, pl_3, pl_4, pl_5, pl_6, pl_7, pl_8, pl_9, pl_10, pl_11, pl_12, pl_13, pl_31, inner, m_ofBasket, oz_shl1, oz_bvor, Nat.or_zero]
      by_cases c : oz_num (fun r => oz_ov a k (i + r * n)) (oz_bas a k 1) = 0
      · rw [decide_eq_true c, Bool.true_or, if_pos rfl, if_pos (by rw [c])]
      · rw [decide_eq_false c, Bool.false_or, if_neg (by rw [oz_eq (by omega) (by omega)]; exact c)]
        by_cases c2 : oz_num (fun r => oz_ov a k (i + r * n)) (oz_bas a k 1) = oz_bas a k 1
        · rw [decide_eq_true c2, if_pos (by rw [c2]), if_pos rfl]
        · rw [decide_eq_false c2, if_neg (by rw [oz_eq (by omega) (by omega)]; exact c2), if_neg (by simp)]) 5000 (by omega)).1
  rw [oz_set_it (P := fun t => decide ((oz_la (fun r => oz_ov a k (t + r * n)) (oz_bas a k 1)).1 = oz_bas a k 1))] at key
  unfold f_Mod_looseBy
  try dsimp only at key
  simp only [lf_lt, pl_0, key, Option.bind_some]; rfl
theorem oz_loose_lt {n : Nat} (hn : n ≤ 24) : oz_loose a k n < 16777216 := Nat.lt_of_lt_of_le (oz_set_le hn) (by decide)
theorem m_loose (V : oz_V a) (hk : k < a 4) : f_Mod_loose (nI k) (oz_md s a) = some (nI (oz_loose a k (oz_bas a k 0))) := by
  have h0 := oz_v0 V
  unfold oz_V0 at h0
  have h2 := oz_v2 V hk
  unfold oz_V2 at h2
  unfold f_Mod_loose
  simp (disch := first | assumption | omega) only [lf_lt, Option.bind_some, nI_add, pk_mul, oz_sub, oz_addm1, oz_div, oz_mod, oz_ck, oz_nz, oz_le_t, oz_le_f, oz_lt_t, oz_lt_f, oz_eq_t, oz_eq_f, oz_eqm1, oz_m1eq, oz_m1lt, oz_ltm1, oz_lem1, oz_m1le, oz_mx, oz_mn, if_true, if_false, ite_true, ite_false, oz_md_r, oz_md_o, oz_md_w, oz_md_wo, oz_md_2, Sum.elim_inl, Sum.elim_inr, pl_0, pl_1, pl_2, pl_3, pl_4, pl_5, pl_6, pl_7, pl_8, pl_9, pl_10, pl_11, pl_12, pl_13, m_ofBasket, m_looseBy V hk]
theorem c_floatOf (V : oz_V a) (C : oz_CK s q a) (hk : k < a 4) : f_Baskets_floatOf q (nI k) s = some (nI (oz_float a k)) := by
  have h0 := oz_v0 V
  unfold oz_V0 at h0
  have h2 := oz_v2 V hk
  unfold oz_V2 at h2
  have hm : oz_bas a k 0 * oz_bas a k 1 ≤ 24 * 20 := Nat.mul_le_mul (by omega) (by omega)
  unfold f_Baskets_floatOf
  simp (disch := first | assumption | omega) only [lf_lt, Option.bind_some, nI_add, pk_mul, oz_sub, oz_addm1, oz_div, oz_mod, oz_ck, oz_nz, oz_le_t, oz_le_f, oz_lt_t, oz_lt_f, oz_eq_t, oz_eq_f, oz_eqm1, oz_m1eq, oz_m1lt, oz_ltm1, oz_lem1, oz_m1le, oz_mx, oz_mn, if_true, if_false, ite_true, ite_false, oz_md_r, oz_md_o, oz_md_w, oz_md_wo, oz_md_2, Sum.elim_inl, Sum.elim_inr, pl_0, pl_1, pl_2, pl_3, pl_4, pl_5, pl_6, pl_7, pl_8, pl_9, pl_10, pl_11, pl_12, pl_13, k_1 C hk, k_2 C hk, c_longestAlike V C hk, oz_float]
theorem m_floatOf (V : oz_V a) (hk : k < a 4) : f_Mod_floatOf (nI k) (oz_md s a) = some (nI (oz_float a k)) := by
  have h0 := oz_v0 V
  unfold oz_V0 at h0
  have h2 := oz_v2 V hk
  unfold oz_V2 at h2
  have hm : oz_bas a k 0 * oz_bas a k 1 ≤ 24 * 20 := Nat.mul_le_mul (by omega) (by omega)
  have key := (oz_forI (N := oz_bas a k 0 * oz_bas a k 1) (fun i x => x.1 ≤ i ∧ x.2 ≤ i) (fun f i (x : Nat × Nat) => f_Mod_floatOf_7 (nI k) f (nI x.1) (nI x.2) (nI i) (oz_md s a)) (oz_las (fun i => oz_ov a k (0 + i * 1))) (fun x => nI x.1) (0, 0) ⟨Nat.le_refl _, Nat.le_refl _⟩ (by
      intro i x hi hx
      unfold oz_las
      try dsimp only
      split <;> omega) (by
      intro f x hx
      simp (disch := first | assumption | omega) only [f_Mod_floatOf_7, lf_lt, Option.bind_some, nI_add, pk_mul, oz_sub, oz_addm1, oz_div, oz_mod, oz_ck, oz_nz, oz_le_t, oz_le_f, oz_lt_t, oz_lt_f, oz_eq_t, oz_eq_f, oz_eqm1, oz_m1eq, oz_m1lt, oz_ltm1, oz_lem1, oz_m1le, oz_mx, oz_mn, if_true, if_false, ite_true, ite_false, oz_md_r, oz_md_o, oz_md_w, oz_md_wo, oz_md_2, Sum.elim_inl, Sum.elim_inr, pl_0, pl_1, pl_2, pl_3, pl_4, pl_5, pl_6, pl_7, pl_8, pl_9, pl_10, pl_11, pl_12, pl_13, m_ofBasket]) (by
      intro f i x hi hx
      unfold oz_las
      try dsimp only
      simp only [Nat.zero_add, Nat.mul_one]
      by_cases c0 : i = 0
      · subst c0
        simp (disch := first | assumption | omega) only [f_Mod_floatOf_7, lf_lt, Option.bind_some, nI_add, pk_mul, oz_sub, oz_addm1, oz_div, oz_mod, oz_ck, oz_nz, oz_le_t, oz_le_f, oz_lt_t, oz_lt_f, oz_eq_t, oz_eq_f, oz_eqm1, oz_m1eq, oz_m1lt, oz_ltm1, oz_lem1, oz_m1le, oz_mx, oz_mn, if_true, if_false, ite_true, ite_false, oz_md_r, oz_md_o, oz_md_w, oz_md_wo, oz_md_2, Sum.elim_inl, Sum.elim_inr, pl_0, pl_1, pl_2, pl_3, pl_4, pl_5, pl_6, pl_7, pl_8, pl_9, pl_10, pl_11, pl_12, pl_13, m_ofBasket, m_greater]
        simp
      · simp (disch := first | assumption | omega) only [f_Mod_floatOf_7, lf_lt, Option.bind_some, nI_add, pk_mul, oz_sub, oz_addm1, oz_div, oz_mod, oz_ck, oz_nz, oz_le_t, oz_le_f, oz_lt_t, oz_lt_f, oz_eq_t, oz_eq_f, oz_eqm1, oz_m1eq, oz_m1lt, oz_ltm1, oz_lem1, oz_m1le, oz_mx, oz_mn, if_true, if_false, ite_true, ite_false, oz_md_r, oz_md_o, oz_md_w, oz_md_wo, oz_md_2, Sum.elim_inl, Sum.elim_inr, pl_0, pl_1, pl_2, pl_3, pl_4, pl_5, pl_6, pl_7, pl_8, pl_9, pl_10, pl_11, pl_12, pl_13, m_ofBasket, m_greater, m_isOver V hk]
        by_cases c : oz_ov a k i = oz_ov a k (i - 1)
        · rw [if_pos c, if_pos ⟨by omega, c⟩]
        · rw [if_neg c, if_neg (fun h => c h.2)]) 5000 (by omega)).1
  unfold f_Mod_floatOf
  try dsimp only at key
  simp only [lf_lt, pl_0, key, Option.bind_some]; rfl
end
