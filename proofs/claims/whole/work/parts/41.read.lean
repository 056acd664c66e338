/-! ===== what the row holds; the model's readers ===== -/
def oz_bed (a : Nat → Nat) (b w : Nat) : Nat := a (13 + 4 * b + w)
def oz_bas (a : Nat → Nat) (k w : Nat) : Nat := a (43 + 11 * k + w)
def oz_sk (a : Nat → Nat) (h : Nat) : Nat := a (98 + 2 * h)
def oz_wg (a : Nat → Nat) (h : Nat) : Nat := a (98 + 2 * h + 1)
def oz_ord (a : Nat → Nat) (o w : Nat) : Nat := a (108 + 3 * o + w)
def oz_sto (a : Nat → Nat) (f : Nat) : Nat := a (37 + f - 1)
def oz_V0 (a : Nat → Nat) : Prop := a 0 ≤ 12 ∧ a 3 ≤ 6 ∧ a 4 ≤ 5 ∧ a 5 ≤ 5 ∧ a 6 ≤ 6 ∧ a 7 ≤ 100 ∧ a 8 ≤ 9999 ∧ a 9 ≤ 9999 ∧ a 10 ≤ 1 ∧ a 11 ≤ 60 ∧ a 12 < 4294967296
def oz_V1 (a : Nat → Nat) (b : Nat) : Prop := oz_bed a b 0 ≤ 2 ∧ oz_bed a b 1 ≤ 9 ∧ 1 ≤ oz_bed a b 2 ∧ oz_bed a b 2 ≤ 99 ∧ oz_bed a b 3 ≤ 9
def oz_V2 (a : Nat → Nat) (k : Nat) : Prop := 3 ≤ oz_bas a k 0 ∧ oz_bas a k 0 ≤ 24 ∧ 1 ≤ oz_bas a k 1 ∧ oz_bas a k 1 ≤ 20 ∧ 1 ≤ oz_bas a k 2 ∧ oz_bas a k 2 ≤ 6 ∧ oz_bas a k 3 ≤ 99 ∧ 2 ≤ oz_bas a k 4 ∧ oz_bas a k 4 ≤ 6
def oz_V3 (a : Nat → Nat) (h : Nat) : Prop := 1 ≤ oz_sk a h ∧ oz_sk a h ≤ 9 ∧ oz_wg a h ≤ 99
def oz_V4 (a : Nat → Nat) (o : Nat) : Prop := oz_ord a o 0 < a 4 ∧ 1 ≤ oz_ord a o 1 ∧ oz_ord a o 1 ≤ 9 ∧ oz_ord a o 2 ≤ 1
def oz_V (a : Nat → Nat) : Prop := oz_V0 a ∧ (∀ b, b < a 3 → oz_V1 a b) ∧ (∀ k, k < a 4 → oz_V2 a k ∧ ∀ i, i < oz_bas a k 4 → 1 ≤ oz_bas a k (5 + i) ∧ oz_bas a k (5 + i) ≤ 4) ∧ (∀ h, h < a 5 → oz_V3 a h) ∧ (∀ o, o < a 6 → oz_V4 a o) ∧ (∀ f, 1 ≤ f → f ≤ 6 → oz_sto a f ≤ 9999) ∧ (∀ i, i < 240 → a (126 + i) ≤ 9999)
section
variable {a : Nat → Nat} (V : oz_V a)
theorem oz_v0 (V : oz_V a) : oz_V0 a := V.1
theorem oz_v1 (V : oz_V a) {b : Nat} (h : b < a 3) : oz_V1 a b := V.2.1 b h
theorem oz_v2 (V : oz_V a) {k : Nat} (h : k < a 4) : oz_V2 a k := (V.2.2.1 k h).1
theorem oz_v2r (V : oz_V a) {k i : Nat} (h : k < a 4) (hi : i < oz_bas a k 4) : 1 ≤ oz_bas a k (5 + i) ∧ oz_bas a k (5 + i) ≤ 4 := (V.2.2.1 k h).2 i hi
theorem oz_v3 (V : oz_V a) {h : Nat} (hh : h < a 5) : oz_V3 a h := V.2.2.2.1 h hh
theorem oz_v4 (V : oz_V a) {o : Nat} (h : o < a 6) : oz_V4 a o := V.2.2.2.2.1 o h
theorem oz_v5 (V : oz_V a) {f : Nat} (h : 1 ≤ f) (h6 : f ≤ 6) : oz_sto a f ≤ 9999 := V.2.2.2.2.2.1 f h h6
theorem oz_v6 (V : oz_V a) {i : Nat} (h : i < 240) : a (126 + i) ≤ 9999 := V.2.2.2.2.2.2 i h
end
section
variable {s : lf_S} {a : Nat → Nat}
theorem m_lesser {x y : Nat} (hx : x < 2147483648) (hy : y < 2147483648) : f_Mod_lesser (nI x) (nI y) = some (nI (min x y)) := by
  unfold f_Mod_lesser
  simp only [oz_le hy hx]
  by_cases h : y ≤ x
  · rw [if_pos h, Nat.min_eq_right h]
  · rw [if_neg h, Nat.min_eq_left (by omega)]
theorem m_greater {x y : Nat} (hx : x < 2147483648) (hy : y < 2147483648) : f_Mod_greater (nI x) (nI y) = some (nI (max x y)) := by
  unfold f_Mod_greater
  simp only [oz_le hx hy]
  by_cases h : x ≤ y
  · rw [if_pos h, Nat.max_eq_right h]
  · rw [if_neg h, Nat.max_eq_left (by omega)]
theorem m_isIn_t {v l h : Nat} (h1 : l ≤ v) (h2 : v ≤ h) (h3 : h < 2147483648) : f_Mod_isIn (nI v) (nI l) (nI h) = some true := by
  unfold f_Mod_isIn
  rw [oz_ilt_f h1 (by omega), oz_ilt_f h2 h3]
theorem m_isIn_f {v l h : Nat} (h1 : v < l ∨ h < v) (h2 : v < 2147483648) (h3 : h < 2147483648) (h4 : l < 2147483648) : f_Mod_isIn (nI v) (nI l) (nI h) = some false := by
  unfold f_Mod_isIn
  by_cases c : v < l
  · rw [oz_ilt_t c h4]
  · rw [oz_ilt_f (by omega) h2, oz_ilt_t (by omega) h2]
theorem m_isIn {v l h : Nat} (h2 : v < 2147483648) (h3 : h < 2147483648) (h4 : l < 2147483648) : f_Mod_isIn (nI v) (nI l) (nI h) = some (decide (l ≤ v ∧ v ≤ h)) := by
  by_cases c : l ≤ v ∧ v ≤ h
  · rw [m_isIn_t c.1 c.2 h3, decide_eq_true c]
  · rw [m_isIn_f (by omega) h2 h3 h4, decide_eq_false c]
/-- a number from outside against bounds -/
theorem oz_in (x : Int32) (l h : Nat) (hl : l ≤ h) (hh : h < 2147483648) : (∃ v, l ≤ v ∧ v ≤ h ∧ x = nI v) ∨ (x < nI l ∨ (¬ x < nI l ∧ nI h < x)) := by
  by_cases c : x < nI l
  · exact Or.inr (Or.inl c)
  · by_cases c2 : nI h < x
    · exact Or.inr (Or.inr ⟨c, c2⟩)
    · have hx : ¬ x < 0 := by
        rw [Int32.lt_iff_toInt_lt, oz_ti (by omega)] at c
        rw [Int32.lt_iff_toInt_lt, show ((0 : Int32)).toInt = 0 by decide +kernel]
        omega
      obtain ⟨j, hj, rfl⟩ := nI_of hx
      rw [oz_lt (by omega) (by omega)] at c c2
      exact Or.inl ⟨j, by omega, by omega, rfl⟩
theorem oz_ix (x : Int32) (n : Nat) (hn : n < 2147483648) : (∃ v, v < n ∧ x = nI v) ∨ (x < nI 0 ∨ (¬ x < nI 0 ∧ nI n - nI 1 < x)) := by
  by_cases c : x < nI 0
  · exact Or.inr (Or.inl c)
  · obtain ⟨j, hj, rfl⟩ := nI_of (x := x) c
    by_cases c2 : j < n
    · exact Or.inl ⟨j, c2, rfl⟩
    · refine Or.inr (Or.inr ⟨c, ?_⟩)
      by_cases c0 : n = 0
      · subst c0
        rw [show nI 0 - nI 1 = oz_N by decide +kernel, oz_m1lt hj]; trivial
      · rw [oz_sub (by omega), oz_lt (by omega) (by omega)]; omega
theorem m_isIn_o {x : Int32} {l : Nat} {h : Int32} (c : x < nI l ∨ (¬ x < nI l ∧ h < x)) : f_Mod_isIn x (nI l) h = some false := by
  unfold f_Mod_isIn
  rcases c with c | ⟨c, c2⟩
  · rw [if_pos c]
  · rw [if_neg c, if_pos c2]
theorem m_isIx_t {v n : Nat} (h1 : v < n) (h3 : n < 2147483648) : f_Mod_isIn (nI v) (nI 0) (nI n - nI 1) = some true := by
  rw [oz_sub (by omega)]
  exact m_isIn_t (Nat.zero_le _) (by omega) (by omega)
theorem m_ofBed {b w : Nat} (hb : b < 6) (hw : w < 4) : f_Mod_ofBed (nI b) (nI w) (oz_md s a) = some (nI (oz_bed a b w)) := by
  unfold f_Mod_ofBed
  simp (disch := first | assumption | omega) only [lf_lt, Option.bind_some, nI_add, pk_mul, oz_sub, oz_addm1, oz_div, oz_mod, oz_ck, oz_nz, oz_le_t, oz_le_f, oz_lt_t, oz_lt_f, oz_eq_t, oz_eq_f, oz_eqm1, oz_m1eq, oz_neg1, oz_m1lt, oz_ltm1, oz_lem1, oz_m1le, oz_mx, oz_mn, if_true, if_false, ite_true, ite_false, oz_md_r, oz_md_o, oz_md_w, oz_md_wo, oz_md_2, Sum.elim_inl, Sum.elim_inr, pl_0, pl_1, pl_2, pl_3, pl_4, pl_5, pl_6, pl_7, pl_8, pl_9, pl_10, pl_11, pl_12, pl_13, oz_bed]
theorem m_ofBasket {k w : Nat} (hb : k < 5) (hw : w < 11) : f_Mod_ofBasket (nI k) (nI w) (oz_md s a) = some (nI (oz_bas a k w)) := by
  unfold f_Mod_ofBasket
  simp (disch := first | assumption | omega) only [lf_lt, Option.bind_some, nI_add, pk_mul, oz_sub, oz_addm1, oz_div, oz_mod, oz_ck, oz_nz, oz_le_t, oz_le_f, oz_lt_t, oz_lt_f, oz_eq_t, oz_eq_f, oz_eqm1, oz_m1eq, oz_neg1, oz_m1lt, oz_ltm1, oz_lem1, oz_m1le, oz_mx, oz_mn, if_true, if_false, ite_true, ite_false, oz_md_r, oz_md_o, oz_md_w, oz_md_wo, oz_md_2, Sum.elim_inl, Sum.elim_inr, pl_0, pl_1, pl_2, pl_3, pl_4, pl_5, pl_6, pl_7, pl_8, pl_9, pl_10, pl_11, pl_12, pl_13, pl_14, pl_15, pl_16, pl_17, pl_18, pl_19, pl_20, pl_21, pl_22, pl_23, pl_24, pl_25, pl_26, pl_27, pl_28, pl_29, pl_30, pl_31, pl_32, pl_33, pl_34, pl_35, pl_36, pl_37, pl_38, pl_39, pl_40, pl_41, pl_42, pl_43, pl_44, pl_45, pl_46, pl_47, pl_48, pl_49, pl_50, pl_51, pl_52, pl_53, pl_54, pl_55, pl_56, pl_57, pl_58, pl_59, pl_60, pl_61, pl_62, pl_63, pl_64, pl_65, pl_66, pl_67, pl_68, pl_69, pl_70, pl_71, pl_72, pl_73, pl_74, pl_75, pl_76, pl_77, pl_78, pl_79, pl_80, pl_81, pl_82, pl_83, pl_84, pl_85, pl_86, pl_87, pl_88, pl_89, pl_90, pl_91, pl_92, pl_93, pl_94, pl_95, pl_96, pl_97, pl_98, pl_99, pl_100, pl_101, pl_102, pl_103, pl_104, pl_105, pl_106, pl_107, pl_108, pl_109, pl_110, pl_111, pl_112, pl_113, pl_114, pl_115, pl_116, pl_117, pl_118, pl_119, pl_120, pl_121, pl_122, pl_123, pl_124, pl_125, pl_126, pl_127, pl_128, pl_129, pl_130, pl_131, pl_236, pl_239, pl_240, pl_255, pl_366, pl_384, pl_400, pl_450, pl_766, pl_999, pl_1000, pl_1001, pl_1002, pl_1003, pl_1004, pl_1005, pl_1006, pl_1007, pl_1008, pl_1009, pl_1010, pl_1011, pl_1012, pl_1013, pl_1014, pl_1015, pl_4026, pl_4392, pl_9999, pl_10000, pl_12345, pl_32767, pl_2000000000, pl_1431655765, pl_858993459, pl_252645135, pl_1103515245, oz_bas]
theorem m_skill {h : Nat} (hb : h < 5) : f_Mod_skill (nI h) (oz_md s a) = some (nI (oz_sk a h)) := by
  unfold f_Mod_skill
  simp (disch := first | assumption | omega) only [lf_lt, Option.bind_some, nI_add, pk_mul, oz_sub, oz_addm1, oz_div, oz_mod, oz_ck, oz_nz, oz_le_t, oz_le_f, oz_lt_t, oz_lt_f, oz_eq_t, oz_eq_f, oz_eqm1, oz_m1eq, oz_neg1, oz_m1lt, oz_ltm1, oz_lem1, oz_m1le, oz_mx, oz_mn, if_true, if_false, ite_true, ite_false, oz_md_r, oz_md_o, oz_md_w, oz_md_wo, oz_md_2, Sum.elim_inl, Sum.elim_inr, pl_0, pl_1, pl_2, pl_3, pl_4, pl_5, pl_6, pl_7, pl_8, pl_9, pl_10, pl_11, pl_12, pl_13, pl_14, pl_15, pl_16, pl_17, pl_18, pl_19, pl_20, pl_21, pl_22, pl_23, pl_24, pl_25, pl_26, pl_27, pl_28, pl_29, pl_30, pl_31, pl_32, pl_33, pl_34, pl_35, pl_36, pl_37, pl_38, pl_39, pl_40, pl_41, pl_42, pl_43, pl_44, pl_45, pl_46, pl_47, pl_48, pl_49, pl_50, pl_51, pl_52, pl_53, pl_54, pl_55, pl_56, pl_57, pl_58, pl_59, pl_60, pl_61, pl_62, pl_63, pl_64, pl_65, pl_66, pl_67, pl_68, pl_69, pl_70, pl_71, pl_72, pl_73, pl_74, pl_75, pl_76, pl_77, pl_78, pl_79, pl_80, pl_81, pl_82, pl_83, pl_84, pl_85, pl_86, pl_87, pl_88, pl_89, pl_90, pl_91, pl_92, pl_93, pl_94, pl_95, pl_96, pl_97, pl_98, pl_99, pl_100, pl_101, pl_102, pl_103, pl_104, pl_105, pl_106, pl_107, pl_108, pl_109, pl_110, pl_111, pl_112, pl_113, pl_114, pl_115, pl_116, pl_117, pl_118, pl_119, pl_120, pl_121, pl_122, pl_123, pl_124, pl_125, pl_126, pl_127, pl_128, pl_129, pl_130, pl_131, pl_236, pl_239, pl_240, pl_255, pl_366, pl_384, pl_400, pl_450, pl_766, pl_999, pl_1000, pl_1001, pl_1002, pl_1003, pl_1004, pl_1005, pl_1006, pl_1007, pl_1008, pl_1009, pl_1010, pl_1011, pl_1012, pl_1013, pl_1014, pl_1015, pl_4026, pl_4392, pl_9999, pl_10000, pl_12345, pl_32767, pl_2000000000, pl_1431655765, pl_858993459, pl_252645135, pl_1103515245, oz_sk]
theorem m_wage {h : Nat} (hb : h < 5) : f_Mod_wage (nI h) (oz_md s a) = some (nI (oz_wg a h)) := by
  unfold f_Mod_wage
  simp (disch := first | assumption | omega) only [lf_lt, Option.bind_some, nI_add, pk_mul, oz_sub, oz_addm1, oz_div, oz_mod, oz_ck, oz_nz, oz_le_t, oz_le_f, oz_lt_t, oz_lt_f, oz_eq_t, oz_eq_f, oz_eqm1, oz_m1eq, oz_neg1, oz_m1lt, oz_ltm1, oz_lem1, oz_m1le, oz_mx, oz_mn, if_true, if_false, ite_true, ite_false, oz_md_r, oz_md_o, oz_md_w, oz_md_wo, oz_md_2, Sum.elim_inl, Sum.elim_inr, pl_0, pl_1, pl_2, pl_3, pl_4, pl_5, pl_6, pl_7, pl_8, pl_9, pl_10, pl_11, pl_12, pl_13, pl_14, pl_15, pl_16, pl_17, pl_18, pl_19, pl_20, pl_21, pl_22, pl_23, pl_24, pl_25, pl_26, pl_27, pl_28, pl_29, pl_30, pl_31, pl_32, pl_33, pl_34, pl_35, pl_36, pl_37, pl_38, pl_39, pl_40, pl_41, pl_42, pl_43, pl_44, pl_45, pl_46, pl_47, pl_48, pl_49, pl_50, pl_51, pl_52, pl_53, pl_54, pl_55, pl_56, pl_57, pl_58, pl_59, pl_60, pl_61, pl_62, pl_63, pl_64, pl_65, pl_66, pl_67, pl_68, pl_69, pl_70, pl_71, pl_72, pl_73, pl_74, pl_75, pl_76, pl_77, pl_78, pl_79, pl_80, pl_81, pl_82, pl_83, pl_84, pl_85, pl_86, pl_87, pl_88, pl_89, pl_90, pl_91, pl_92, pl_93, pl_94, pl_95, pl_96, pl_97, pl_98, pl_99, pl_100, pl_101, pl_102, pl_103, pl_104, pl_105, pl_106, pl_107, pl_108, pl_109, pl_110, pl_111, pl_112, pl_113, pl_114, pl_115, pl_116, pl_117, pl_118, pl_119, pl_120, pl_121, pl_122, pl_123, pl_124, pl_125, pl_126, pl_127, pl_128, pl_129, pl_130, pl_131, pl_236, pl_239, pl_240, pl_255, pl_366, pl_384, pl_400, pl_450, pl_766, pl_999, pl_1000, pl_1001, pl_1002, pl_1003, pl_1004, pl_1005, pl_1006, pl_1007, pl_1008, pl_1009, pl_1010, pl_1011, pl_1012, pl_1013, pl_1014, pl_1015, pl_4026, pl_4392, pl_9999, pl_10000, pl_12345, pl_32767, pl_2000000000, pl_1431655765, pl_858993459, pl_252645135, pl_1103515245, oz_wg]
theorem m_ofOrder {o w : Nat} (hb : o < 6) (hw : w < 3) : f_Mod_ofOrder (nI o) (nI w) (oz_md s a) = some (nI (oz_ord a o w)) := by
  unfold f_Mod_ofOrder
  simp (disch := first | assumption | omega) only [lf_lt, Option.bind_some, nI_add, pk_mul, oz_sub, oz_addm1, oz_div, oz_mod, oz_ck, oz_nz, oz_le_t, oz_le_f, oz_lt_t, oz_lt_f, oz_eq_t, oz_eq_f, oz_eqm1, oz_m1eq, oz_neg1, oz_m1lt, oz_ltm1, oz_lem1, oz_m1le, oz_mx, oz_mn, if_true, if_false, ite_true, ite_false, oz_md_r, oz_md_o, oz_md_w, oz_md_wo, oz_md_2, Sum.elim_inl, Sum.elim_inr, pl_0, pl_1, pl_2, pl_3, pl_4, pl_5, pl_6, pl_7, pl_8, pl_9, pl_10, pl_11, pl_12, pl_13, pl_14, pl_15, pl_16, pl_17, pl_18, pl_19, pl_20, pl_21, pl_22, pl_23, pl_24, pl_25, pl_26, pl_27, pl_28, pl_29, pl_30, pl_31, pl_32, pl_33, pl_34, pl_35, pl_36, pl_37, pl_38, pl_39, pl_40, pl_41, pl_42, pl_43, pl_44, pl_45, pl_46, pl_47, pl_48, pl_49, pl_50, pl_51, pl_52, pl_53, pl_54, pl_55, pl_56, pl_57, pl_58, pl_59, pl_60, pl_61, pl_62, pl_63, pl_64, pl_65, pl_66, pl_67, pl_68, pl_69, pl_70, pl_71, pl_72, pl_73, pl_74, pl_75, pl_76, pl_77, pl_78, pl_79, pl_80, pl_81, pl_82, pl_83, pl_84, pl_85, pl_86, pl_87, pl_88, pl_89, pl_90, pl_91, pl_92, pl_93, pl_94, pl_95, pl_96, pl_97, pl_98, pl_99, pl_100, pl_101, pl_102, pl_103, pl_104, pl_105, pl_106, pl_107, pl_108, pl_109, pl_110, pl_111, pl_112, pl_113, pl_114, pl_115, pl_116, pl_117, pl_118, pl_119, pl_120, pl_121, pl_122, pl_123, pl_124, pl_125, pl_126, pl_127, pl_128, pl_129, pl_130, pl_131, pl_236, pl_239, pl_240, pl_255, pl_366, pl_384, pl_400, pl_450, pl_766, pl_999, pl_1000, pl_1001, pl_1002, pl_1003, pl_1004, pl_1005, pl_1006, pl_1007, pl_1008, pl_1009, pl_1010, pl_1011, pl_1012, pl_1013, pl_1014, pl_1015, pl_4026, pl_4392, pl_9999, pl_10000, pl_12345, pl_32767, pl_2000000000, pl_1431655765, pl_858993459, pl_252645135, pl_1103515245, oz_ord]
theorem m_stored {f : Nat} (h1 : 1 ≤ f) (h6 : f ≤ 6) : f_Mod_stored (nI f) (oz_md s a) = some (nI (oz_sto a f)) := by
  unfold f_Mod_stored
  simp (disch := first | assumption | omega) only [lf_lt, Option.bind_some, nI_add, pk_mul, oz_sub, oz_addm1, oz_div, oz_mod, oz_ck, oz_nz, oz_le_t, oz_le_f, oz_lt_t, oz_lt_f, oz_eq_t, oz_eq_f, oz_eqm1, oz_m1eq, oz_neg1, oz_m1lt, oz_ltm1, oz_lem1, oz_m1le, oz_mx, oz_mn, if_true, if_false, ite_true, ite_false, oz_md_r, oz_md_o, oz_md_w, oz_md_wo, oz_md_2, Sum.elim_inl, Sum.elim_inr, pl_0, pl_1, pl_2, pl_3, pl_4, pl_5, pl_6, pl_7, pl_8, pl_9, pl_10, pl_11, pl_12, pl_13, pl_14, pl_15, pl_16, pl_17, pl_18, pl_19, pl_20, pl_21, pl_22, pl_23, pl_24, pl_25, pl_26, pl_27, pl_28, pl_29, pl_30, pl_31, pl_32, pl_33, pl_34, pl_35, pl_36, pl_37, pl_38, pl_39, pl_40, pl_41, pl_42, pl_43, pl_44, pl_45, pl_46, pl_47, pl_48, pl_49, pl_50, pl_51, pl_52, pl_53, pl_54, pl_55, pl_56, pl_57, pl_58, pl_59, pl_60, pl_61, pl_62, pl_63, pl_64, pl_65, pl_66, pl_67, pl_68, pl_69, pl_70, pl_71, pl_72, pl_73, pl_74, pl_75, pl_76, pl_77, pl_78, pl_79, pl_80, pl_81, pl_82, pl_83, pl_84, pl_85, pl_86, pl_87, pl_88, pl_89, pl_90, pl_91, pl_92, pl_93, pl_94, pl_95, pl_96, pl_97, pl_98, pl_99, pl_100, pl_101, pl_102, pl_103, pl_104, pl_105, pl_106, pl_107, pl_108, pl_109, pl_110, pl_111, pl_112, pl_113, pl_114, pl_115, pl_116, pl_117, pl_118, pl_119, pl_120, pl_121, pl_122, pl_123, pl_124, pl_125, pl_126, pl_127, pl_128, pl_129, pl_130, pl_131, pl_236, pl_239, pl_240, pl_255, pl_366, pl_384, pl_400, pl_450, pl_766, pl_999, pl_1000, pl_1001, pl_1002, pl_1003, pl_1004, pl_1005, pl_1006, pl_1007, pl_1008, pl_1009, pl_1010, pl_1011, pl_1012, pl_1013, pl_1014, pl_1015, pl_4026, pl_4392, pl_9999, pl_10000, pl_12345, pl_32767, pl_2000000000, pl_1431655765, pl_858993459, pl_252645135, pl_1103515245, oz_sto]
theorem m_isBed_t {b : Nat} (hb : b < a 3) (h6 : a 3 ≤ 6) : f_Mod_isBed (nI b) (oz_md s a) = some true := by
  unfold f_Mod_isBed
  simp (disch := first | assumption | omega) only [oz_ck, pl_3, pl_0, pl_1, oz_md_r, m_isIx_t, Option.bind_some]
theorem m_isBed_f {x : Int32} (c : x < nI 0 ∨ (¬ x < nI 0 ∧ nI (a 3) - nI 1 < x)) : f_Mod_isBed x (oz_md s a) = some false := by
  unfold f_Mod_isBed
  simp (disch := first | assumption | omega) only [oz_ck, pl_3, pl_0, pl_1, oz_md_r, m_isIn_o, Option.bind_some]
theorem m_isBasket_t {b : Nat} (hb : b < a 4) (h6 : a 4 ≤ 5) : f_Mod_isBasket (nI b) (oz_md s a) = some true := by
  unfold f_Mod_isBasket
  simp (disch := first | assumption | omega) only [oz_ck, pl_4, pl_0, pl_1, oz_md_r, m_isIx_t, Option.bind_some]
theorem m_isBasket_f {x : Int32} (c : x < nI 0 ∨ (¬ x < nI 0 ∧ nI (a 4) - nI 1 < x)) : f_Mod_isBasket x (oz_md s a) = some false := by
  unfold f_Mod_isBasket
  simp (disch := first | assumption | omega) only [oz_ck, pl_4, pl_0, pl_1, oz_md_r, m_isIn_o, Option.bind_some]
theorem m_isHand_t {b : Nat} (hb : b < a 5) (h6 : a 5 ≤ 5) : f_Mod_isHand (nI b) (oz_md s a) = some true := by
  unfold f_Mod_isHand
  simp (disch := first | assumption | omega) only [oz_ck, pl_5, pl_0, pl_1, oz_md_r, m_isIx_t, Option.bind_some]
theorem m_isHand_f {x : Int32} (c : x < nI 0 ∨ (¬ x < nI 0 ∧ nI (a 5) - nI 1 < x)) : f_Mod_isHand x (oz_md s a) = some false := by
  unfold f_Mod_isHand
  simp (disch := first | assumption | omega) only [oz_ck, pl_5, pl_0, pl_1, oz_md_r, m_isIn_o, Option.bind_some]
theorem m_isOrder_t {b : Nat} (hb : b < a 6) (h6 : a 6 ≤ 6) : f_Mod_isOrder (nI b) (oz_md s a) = some true := by
  unfold f_Mod_isOrder
  simp (disch := first | assumption | omega) only [oz_ck, pl_6, pl_0, pl_1, oz_md_r, m_isIx_t, Option.bind_some]
theorem m_isOrder_f {x : Int32} (c : x < nI 0 ∨ (¬ x < nI 0 ∧ nI (a 6) - nI 1 < x)) : f_Mod_isOrder x (oz_md s a) = some false := by
  unfold f_Mod_isOrder
  simp (disch := first | assumption | omega) only [oz_ck, pl_6, pl_0, pl_1, oz_md_r, m_isIn_o, Option.bind_some]
end
