/-! ===== count, seed ===== -/
def oz_ct (a : Nat → Nat) (n : Nat) (x : Int32) : Int32 := if 0 ≤ x.toInt ∧ x.toInt < 12 then nI (match x.toInt.toNat with
  | 0 => a 3
  | 1 => a 4
  | 2 => a 5
  | 3 => a 6
  | 4 => a 0
  | 5 => a 1
  | 6 => a 7
  | 7 => a 8
  | 8 => a 9
  | 9 => a 10
  | 10 => a 11
  | _ => n) else oz_N
section
variable {s : lf_S} {a : Nat → Nat} {n : Nat}
theorem oz_nn {x : Int32} {k : Nat} (h : ¬ (0 ≤ x.toInt ∧ x.toInt < 12)) (hk : k < 12) : ¬ x = nI k := by
  intro e
  rw [e, oz_ti (by omega)] at h
  omega
theorem c_count (V : oz_V a) (C : oz_C s 10 a) (h34 : s.1 34 0 = nI (a 1)) (h10 : s.1 0 10 = nI n) (x : Int32) : f_Main_count x s = some (oz_ct a n x) := by
  have hv := oz_v0 V
  unfold oz_V0 at hv
  unfold f_Main_count oz_ct
  simp only [lf_lt]
  rw [b_0 C.2.1, k_0 C.2.2.1, h_0 C.2.2.2.1, o_0 C.2.2.2.2.1, h34, h10]
  have c0 := C.1
  unfold oz_C0 at c0
  have cl := C.2.2.2.2.2.1.1
  rw [c0.1, c0.2.1, c0.2.2.1, c0.2.2.2.1, c0.2.2.2.2.2, cl]
  by_cases h : 0 ≤ x.toInt ∧ x.toInt < 12
  · rw [if_pos h]
    have e : x.toInt = ((x.toInt.toNat : Nat) : Int) := by omega
    have ex := oz_toInt_eq e (by omega)
    have hk : x.toInt.toNat < 12 := by omega
    generalize x.toInt.toNat = k at *
    subst ex
    match k, hk with
    | 0, _ => rw [if_pos (by decide +kernel)]; rfl
    | 1, _ => rw [if_neg (by decide +kernel), if_pos (by decide +kernel)]; rfl
    | 2, _ => rw [if_neg (by decide +kernel), if_neg (by decide +kernel), if_pos (by decide +kernel)]; rfl
    | 3, _ => rw [if_neg (by decide +kernel), if_neg (by decide +kernel), if_neg (by decide +kernel), if_pos (by decide +kernel)]; rfl
    | 4, _ => rw [if_neg (by decide +kernel), if_neg (by decide +kernel), if_neg (by decide +kernel), if_neg (by decide +kernel), if_pos (by decide +kernel)]; rfl
    | 5, _ => rw [if_neg (by decide +kernel), if_neg (by decide +kernel), if_neg (by decide +kernel), if_neg (by decide +kernel), if_neg (by decide +kernel), if_pos (by decide +kernel)]; rfl
    | 6, _ => rw [if_neg (by decide +kernel), if_neg (by decide +kernel), if_neg (by decide +kernel), if_neg (by decide +kernel), if_neg (by decide +kernel), if_neg (by decide +kernel), if_pos (by decide +kernel)]; rfl
    | 7, _ => rw [if_neg (by decide +kernel), if_neg (by decide +kernel), if_neg (by decide +kernel), if_neg (by decide +kernel), if_neg (by decide +kernel), if_neg (by decide +kernel), if_neg (by decide +kernel), if_pos (by decide +kernel)]; rfl
    | 8, _ => rw [if_neg (by decide +kernel), if_neg (by decide +kernel), if_neg (by decide +kernel), if_neg (by decide +kernel), if_neg (by decide +kernel), if_neg (by decide +kernel), if_neg (by decide +kernel), if_neg (by decide +kernel), if_pos (by decide +kernel)]; rfl
    | 9, _ =>
      rw [if_neg (by decide +kernel), if_neg (by decide +kernel), if_neg (by decide +kernel), if_neg (by decide +kernel), if_neg (by decide +kernel), if_neg (by decide +kernel), if_neg (by decide +kernel), if_neg (by decide +kernel), if_neg (by decide +kernel), if_pos (by decide +kernel)]
      by_cases c : a 10 = 0
      · rw [c]; exact if_pos rfl
      · rw [show a 10 = 1 by omega]; exact if_neg (by decide +kernel)
    | 10, _ => rw [if_neg (by decide +kernel), if_neg (by decide +kernel), if_neg (by decide +kernel), if_neg (by decide +kernel), if_neg (by decide +kernel), if_neg (by decide +kernel), if_neg (by decide +kernel), if_neg (by decide +kernel), if_neg (by decide +kernel), if_neg (by decide +kernel), if_pos (by decide +kernel)]; rfl
    | 11, _ => rw [if_neg (by decide +kernel), if_neg (by decide +kernel), if_neg (by decide +kernel), if_neg (by decide +kernel), if_neg (by decide +kernel), if_neg (by decide +kernel), if_neg (by decide +kernel), if_neg (by decide +kernel), if_neg (by decide +kernel), if_neg (by decide +kernel), if_neg (by decide +kernel), if_pos (by decide +kernel)]; rfl
  · rw [if_neg h]
    rw [if_neg (show ¬ x = (0 : Int32) from oz_nn (k := 0) h (by omega)), if_neg (show ¬ x = (1 : Int32) from oz_nn (k := 1) h (by omega)), if_neg (show ¬ x = (2 : Int32) from oz_nn (k := 2) h (by omega)), if_neg (show ¬ x = (3 : Int32) from oz_nn (k := 3) h (by omega)), if_neg (show ¬ x = (4 : Int32) from oz_nn (k := 4) h (by omega)), if_neg (show ¬ x = (5 : Int32) from oz_nn (k := 5) h (by omega)), if_neg (show ¬ x = (6 : Int32) from oz_nn (k := 6) h (by omega)), if_neg (show ¬ x = (7 : Int32) from oz_nn (k := 7) h (by omega)), if_neg (show ¬ x = (8 : Int32) from oz_nn (k := 8) h (by omega)), if_neg (show ¬ x = (9 : Int32) from oz_nn (k := 9) h (by omega)), if_neg (show ¬ x = (10 : Int32) from oz_nn (k := 10) h (by omega)), if_neg (show ¬ x = (11 : Int32) from oz_nn (k := 11) h (by omega))]
    rw [pl_1, oz_neg1]
theorem m_count (V : oz_V a) (h6 : s.1 389 6 = nI n) (x : Int32) : f_Mod_count x (oz_md s a) = some (oz_ct a n x, oz_md (lf_w s 389 0 (nI 0)) a) := by
  have hv := oz_v0 V
  unfold oz_V0 at hv
  unfold f_Mod_count oz_ct
  simp only [lf_lt]
  rw [show lf_w (oz_md s a) 389 0 (0 : Int32) = oz_md (lf_w s 389 0 (nI 0)) a from oz_md_wo (by omega)]
  have e6 : (oz_md (lf_w s 389 0 (nI 0)) a).1 389 6 = nI n := by rw [oz_md_o (by omega), oz_w_n (by omega)]; exact h6
  rw [e6]
  by_cases h : 0 ≤ x.toInt ∧ x.toInt < 12
  · rw [if_pos h]
    have e : x.toInt = ((x.toInt.toNat : Nat) : Int) := by omega
    have ex := oz_toInt_eq e (by omega)
    have hk : x.toInt.toNat < 12 := by omega
    generalize x.toInt.toNat = k at *
    subst ex
    match k, hk with
    | 0, _ => rw [if_pos (by decide +kernel), pl_3, oz_ck (by omega) (by omega), oz_md_r]; rfl
    | 1, _ => rw [if_neg (by decide +kernel), if_pos (by decide +kernel), pl_4, oz_ck (by omega) (by omega), oz_md_r]; rfl
    | 2, _ => rw [if_neg (by decide +kernel), if_neg (by decide +kernel), if_pos (by decide +kernel), pl_5, oz_ck (by omega) (by omega), oz_md_r]; rfl
    | 3, _ => rw [if_neg (by decide +kernel), if_neg (by decide +kernel), if_neg (by decide +kernel), if_pos (by decide +kernel), pl_6, oz_ck (by omega) (by omega), oz_md_r]; rfl
    | 4, _ => rw [if_neg (by decide +kernel), if_neg (by decide +kernel), if_neg (by decide +kernel), if_neg (by decide +kernel), if_pos (by decide +kernel), pl_0, oz_ck (by omega) (by omega), oz_md_r]; rfl
    | 5, _ => rw [if_neg (by decide +kernel), if_neg (by decide +kernel), if_neg (by decide +kernel), if_neg (by decide +kernel), if_neg (by decide +kernel), if_pos (by decide +kernel), pl_1, oz_ck (by omega) (by omega), oz_md_r]; rfl
    | 6, _ => rw [if_neg (by decide +kernel), if_neg (by decide +kernel), if_neg (by decide +kernel), if_neg (by decide +kernel), if_neg (by decide +kernel), if_neg (by decide +kernel), pl_6, pl_9, m_isIn_t (by omega) (by omega) (by omega), Option.bind_some, if_pos rfl, pl_7, nI_add, oz_sub (by omega), oz_ck (by omega) (by omega), oz_md_r]; rfl
    | 7, _ => rw [if_neg (by decide +kernel), if_neg (by decide +kernel), if_neg (by decide +kernel), if_neg (by decide +kernel), if_neg (by decide +kernel), if_neg (by decide +kernel), pl_6, pl_9, m_isIn_t (by omega) (by omega) (by omega), Option.bind_some, if_pos rfl, pl_7, nI_add, oz_sub (by omega), oz_ck (by omega) (by omega), oz_md_r]; rfl
    | 8, _ => rw [if_neg (by decide +kernel), if_neg (by decide +kernel), if_neg (by decide +kernel), if_neg (by decide +kernel), if_neg (by decide +kernel), if_neg (by decide +kernel), pl_6, pl_9, m_isIn_t (by omega) (by omega) (by omega), Option.bind_some, if_pos rfl, pl_7, nI_add, oz_sub (by omega), oz_ck (by omega) (by omega), oz_md_r]; rfl
    | 9, _ => rw [if_neg (by decide +kernel), if_neg (by decide +kernel), if_neg (by decide +kernel), if_neg (by decide +kernel), if_neg (by decide +kernel), if_neg (by decide +kernel), pl_6, pl_9, m_isIn_t (by omega) (by omega) (by omega), Option.bind_some, if_pos rfl, pl_7, nI_add, oz_sub (by omega), oz_ck (by omega) (by omega), oz_md_r]; rfl
    | 10, _ => rw [if_neg (by decide +kernel), if_neg (by decide +kernel), if_neg (by decide +kernel), if_neg (by decide +kernel), if_neg (by decide +kernel), if_neg (by decide +kernel), pl_6, pl_9, m_isIn_f (by omega) (by omega) (by omega) (by omega), Option.bind_some, if_neg (show ¬ (false = true) from Bool.noConfusion), if_pos (by decide +kernel), pl_11, oz_ck (by omega) (by omega), oz_md_r]; rfl
    | 11, _ => rw [if_neg (by decide +kernel), if_neg (by decide +kernel), if_neg (by decide +kernel), if_neg (by decide +kernel), if_neg (by decide +kernel), if_neg (by decide +kernel), pl_6, pl_9, m_isIn_f (by omega) (by omega) (by omega) (by omega), Option.bind_some, if_neg (show ¬ (false = true) from Bool.noConfusion), if_neg (by decide +kernel), if_pos (by decide +kernel)]; rfl
  · rw [if_neg h]
    have co : x < nI 6 ∨ (¬ x < nI 6 ∧ nI 9 < x) := by
      rw [Int32.lt_iff_toInt_lt, Int32.lt_iff_toInt_lt, oz_ti (by omega), oz_ti (by omega)]
      omega
    rw [if_neg (show ¬ x = (0 : Int32) from oz_nn (k := 0) h (by omega)), if_neg (show ¬ x = (1 : Int32) from oz_nn (k := 1) h (by omega)), if_neg (show ¬ x = (2 : Int32) from oz_nn (k := 2) h (by omega)), if_neg (show ¬ x = (3 : Int32) from oz_nn (k := 3) h (by omega)), if_neg (show ¬ x = (4 : Int32) from oz_nn (k := 4) h (by omega)), if_neg (show ¬ x = (5 : Int32) from oz_nn (k := 5) h (by omega)), pl_6, pl_9, m_isIn_o co, Option.bind_some, if_neg (show ¬ (false = true) from Bool.noConfusion), if_neg (show ¬ x = (10 : Int32) from oz_nn (k := 10) h (by omega)), if_neg (show ¬ x = (11 : Int32) from oz_nn (k := 11) h (by omega)), pl_1, oz_neg1]
theorem c_seed (V : oz_V a) (C : oz_C s 10 a) (x : Int32) : f_Main_seed x s = some (nI (a 12), lf_w s 10 10 x) := by
  have c0 := C.1
  unfold oz_C0 at c0
  unfold f_Main_seed
  simp only [lf_lt]
  rw [c0.2.2.2.2.1]
theorem m_seed {v : Nat} : f_Mod_seed (nI v) (oz_md s a) = some (nI (a 12), oz_md (lf_w s 389 0 (nI 0)) (oz_up a 12 v)) := by
  unfold f_Mod_seed
  simp only [lf_lt]
  rw [pl_0, pl_12, oz_ck (by omega) (by omega), oz_ck (by omega) (by omega), oz_md_wo (by omega), oz_md_r, oz_md_w]
theorem oz_C_seed (V : oz_V a) (C : oz_C s 10 a) {v : Nat} : oz_C (lf_w s 10 10 (nI v)) 10 (oz_up a 12 v) := oz_C_num V C (by omega)
end
