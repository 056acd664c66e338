/-! ===== bits ===== -/
theorem oz_sm : ∀ k, k < 32 → ((nI k &&& nI 31).toBitVec.smod 32).toNat = k := by decide +kernel
theorem oz_shl {n k : Nat} (hk : k < 32) (h : n * 2 ^ k < 4294967296) : nI n <<< (nI k &&& nI 31) = nI (n * 2 ^ k) := pk_shlN _ k (oz_sm k hk) h
theorem oz_shr {n k : Nat} (hk : k < 32) (h : n < 2147483648) : nI n >>> (nI k &&& nI 31) = nI (n / 2 ^ k) := pk_shrN h _ k (oz_sm k hk)
theorem oz_and1 {n : Nat} (h : n < 4294967296) : nI n &&& nI 1 = nI (n % 2) := pk_andN h 1 (by decide +kernel)
theorem oz_bvor {a b : Nat} (ha : a < 4294967296) (hb : b < 4294967296) : nI a ||| nI b = nI (a ||| b) := by
  apply Int32.toBitVec_inj.mp
  apply BitVec.eq_of_toNat_eq
  rw [Int32.toBitVec_or, BitVec.toNat_or, pk_tn ha, pk_tn hb, pk_tn (Nat.or_lt_two_pow (n := 32) ha hb)]
theorem oz_bvand {a b : Nat} (ha : a < 4294967296) (hb : b < 4294967296) : nI a &&& nI b = nI (a &&& b) := by
  apply Int32.toBitVec_inj.mp
  apply BitVec.eq_of_toNat_eq
  rw [Int32.toBitVec_and, BitVec.toNat_and, pk_tn ha, pk_tn hb, pk_tn (Nat.lt_of_le_of_lt Nat.and_le_left ha)]
theorem oz_p2 : ∀ k, k < 31 → 2 ^ k < 2147483648 := by decide +kernel
theorem oz_p2' {k : Nat} (h : k < 31) : 1 * 2 ^ k < 4294967296 := by have := oz_p2 k h; omega
theorem oz_shl1 {k : Nat} (h : k < 31) : nI 1 <<< (nI k &&& nI 31) = nI (2 ^ k) := by
  rw [oz_shl (by omega) (oz_p2' h), Nat.one_mul]
/-- the k-th bit is asked -/
theorem oz_bit {n k : Nat} (hk : k < 32) (h : n < 2147483648) : (nI n >>> (nI k &&& nI 31)) &&& nI 1 = nI (n / 2 ^ k % 2) := by
  rw [oz_shr hk h, oz_and1 (Nat.lt_of_le_of_lt (Nat.div_le_self _ _) (by omega))]
theorem oz_bit_eq {n k : Nat} (hk : k < 32) (h : n < 2147483648) : (((nI n >>> (nI k &&& nI 31)) &&& nI 1) = nI 1) = (n.testBit k = true) := by
  rw [oz_bit hk h, oz_eq (by omega) (by omega), Nat.testBit_eq_decide_div_mod_eq]
  simp only [decide_eq_true_eq]
theorem m_isOf {n k : Nat} (hk : k < 32) (h : n < 2147483648) : f_Mod_isOf (nI n) (nI k) = some (n.testBit k) := by
  unfold f_Mod_isOf
  simp only [pl_1, pl_31, oz_bit_eq hk h]
  cases n.testBit k <;> rfl
/-- a set of those i below n for which P holds -/
def oz_set (P : Nat → Bool) : Nat → Nat
  | 0 => 0
  | n + 1 => if P n then oz_set P n ||| 2 ^ n else oz_set P n
theorem oz_set_lt {P : Nat → Bool} {n : Nat} : oz_set P n < 2 ^ n := by
  induction n with
  | zero => exact Nat.one_pos
  | succ n ih =>
    unfold oz_set
    have h2 : 2 ^ n < 2 ^ (n + 1) := Nat.pow_lt_pow_right (by omega) (by omega)
    split
    · exact Nat.or_lt_two_pow (by omega) h2
    · omega
theorem oz_set_le {P : Nat → Bool} {n m : Nat} (h : n ≤ m) : oz_set P n < 2 ^ m := Nat.lt_of_lt_of_le oz_set_lt (Nat.pow_le_pow_right (by omega) h)
theorem oz_set_bit {P : Nat → Bool} {n i : Nat} : (oz_set P n).testBit i = (decide (i < n) && P i) := by
  induction n with
  | zero => unfold oz_set; simp
  | succ n ih =>
    unfold oz_set
    split
    · rename_i h
      rw [Nat.testBit_or, ih, Nat.testBit_two_pow]
      by_cases c : n = i
      · subst c; simp [h]
      · rw [decide_eq_false c, Bool.or_false]
        by_cases c2 : i < n
        · rw [decide_eq_true c2, decide_eq_true (by omega : i < n + 1)]
        · rw [decide_eq_false c2, decide_eq_false (by omega : ¬ i < n + 1)]
    · rename_i h
      rw [ih]
      by_cases c : n = i
      · subst c; simp [h]
      · by_cases c2 : i < n
        · rw [decide_eq_true c2, decide_eq_true (by omega : i < n + 1)]
        · rw [decide_eq_false c2, decide_eq_false (by omega : ¬ i < n + 1)]
theorem oz_set_congr {P Q : Nat → Bool} {n : Nat} (h : ∀ i, i < n → P i = Q i) : oz_set P n = oz_set Q n := by
  induction n with
  | zero => rfl
  | succ n ih =>
    unfold oz_set
    rw [h n (by omega), ih (fun i hi => h i (by omega))]
theorem oz_set_it {P : Nat → Bool} {n : Nat} : oz_it (fun i x => if P i then x ||| 2 ^ i else x) n 0 = oz_set P n := by
  induction n with
  | zero => rfl
  | succ n ih =>
    show (if P n then oz_it _ n 0 ||| 2 ^ n else oz_it _ n 0) = _
    rw [ih]; rfl
/-- bits counted -/
def oz_cnt (x : Nat) : Nat → Nat
  | 0 => 0
  | n + 1 => oz_cnt x n + x / 2 ^ n % 2
theorem oz_cnt_le {x n : Nat} : oz_cnt x n ≤ n := by
  induction n with
  | zero => exact Nat.le_refl _
  | succ n ih => unfold oz_cnt; omega
theorem m_bits {x : Nat} (h : x < 2147483648) : f_Mod_bits (nI x) = some (nI (oz_cnt x 31)) := by
  unfold f_Mod_bits
  have key : f_Mod_bits_4 (nI x) 5000 (nI 0) (nI 0) = some (nI (oz_it (fun i y => y + x / 2 ^ i % 2) 31 0)) := by
    refine (oz_forI (N := 31) (fun i y => y ≤ i) (fun n i y => f_Mod_bits_4 (nI x) n (nI y) (nI i)) (fun i y => y + x / 2 ^ i % 2) nI 0 (Nat.le_refl _) ?_ ?_ ?_ 5000 (by omega)).1
    · intro i y hi hy; omega
    · intro n y hy
      simp (disch := first | assumption | omega) only [f_Mod_bits_4, lf_lt, Option.bind_some, nI_add, pk_mul, oz_sub, oz_addm1, oz_div, oz_mod, oz_ck, oz_nz, oz_le_t, oz_le_f, oz_lt_t, oz_lt_f, oz_eq_t, oz_eq_f, oz_eqm1, oz_m1eq, oz_m1lt, oz_ltm1, oz_lem1, oz_m1le, oz_mx, oz_mn, if_true, if_false, ite_true, ite_false, oz_md_r, oz_md_o, oz_md_w, oz_md_wo, oz_md_2, Sum.elim_inl, Sum.elim_inr, pl_0, pl_1, pl_2, pl_3, pl_4, pl_5, pl_6, pl_7, pl_8, pl_9, pl_10, pl_11, pl_12, pl_13, pl_31]
    · intro n i y hi hy
      simp (disch := first | assumption | omega) only [f_Mod_bits_4, lf_lt, Option.bind_some, nI_add, pk_mul, oz_sub, oz_addm1, oz_div, oz_mod, oz_ck, oz_nz, oz_le_t, oz_le_f, oz_lt_t, oz_lt_f, oz_eq_t, oz_eq_f, oz_eqm1, oz_m1eq, oz_m1lt, oz_ltm1, oz_lem1, oz_m1le, oz_mx, oz_mn, if_true, if_false, ite_true, ite_false, oz_md_r, oz_md_o, oz_md_w, oz_md_wo, oz_md_2, Sum.elim_inl, Sum.elim_inr, pl_0, pl_1, pl_2, pl_3, pl_4, pl_5, pl_6, pl_7, pl_8, pl_9, pl_10, pl_11, pl_12, pl_13, pl_31, oz_bit]
  have e : oz_it (fun i y => y + x / 2 ^ i % 2) 31 0 = oz_cnt x 31 := by
    have : ∀ n, oz_it (fun i y => y + x / 2 ^ i % 2) n 0 = oz_cnt x n := by
      intro n
      induction n with
      | zero => rfl
      | succ n ih => show oz_it _ n 0 + _ = _; rw [ih]; rfl
    exact this 31
  rw [e] at key
  simp only [lf_lt, pl_0, key, Option.bind_some]
