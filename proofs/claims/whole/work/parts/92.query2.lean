/-! ===== run, change ===== -/
section
variable {s : lf_S} {a : Nat → Nat}
def oz_rnR (a : Nat → Nat) (x y : Int32) : Nat ⊕ Int32 := if 0 ≤ x.toInt ∧ x.toInt < a 4 then Sum.inr (if 0 ≤ y.toInt ∧ y.toInt < oz_bas a x.toInt.toNat 4 then nI (oz_bas a x.toInt.toNat (5 + y.toInt.toNat)) else oz_N) else Sum.inl 3
theorem c_needBasket_t {k : Nat} (C : oz_C s 10 a) (h : k < a 4) (h5 : a 4 ≤ 5) : f_Main_needBasket (nI k) s = some (Sum.inr (), s) := by
  unfold f_Main_needBasket
  rw [k_0 C.2.2.1, pl_1, show f_Main_needIndex (nI k) (0 : Int32) (nI (a 4) - nI 1) s = some (Sum.inr (), s) from oz_dn_le h (by omega)]
  rfl
theorem c_needBasket_f {x : Int32} (C : oz_C s 10 a) (h : x < nI 0 ∨ (¬ x < nI 0 ∧ nI (a 4) - nI 1 < x)) : f_Main_needBasket x s = some (Sum.inl 3, s) := by
  unfold f_Main_needBasket
  rw [k_0 C.2.2.1, pl_1, show f_Main_needIndex x (0 : Int32) (nI (a 4) - nI 1) s = some (Sum.inl 3, s) from c_needIndex_f h]
  rfl
theorem c_run (V : oz_V a) (C : oz_C s 10 a) (x y : Int32) : f_Main_run x y s = some (oz_rnR a x y, s) := by
  have hv := oz_v0 V
  unfold oz_V0 at hv
  unfold f_Main_run oz_rnR
  rcases oz_isix x (a 4) (by omega) with ⟨k, h1, h2, h3⟩ | ⟨h1, h2⟩
  · have v2 := oz_v2 V h1
    unfold oz_V2 at v2
    rw [h3, if_pos (by omega), h2, c_needBasket_t C h1 (by omega), show ((k : Nat) : Int).toNat = k from Int.toNat_natCast k]
    unfold lf_tb
    simp only [Option.bind_some]
    rw [oz_ck (by omega) (by omega), k_5 C.2.2.1 h1, pl_1, oz_neg1]
    rcases oz_isix y (oz_bas a k 4) (by omega) with ⟨j, j1, j2, j3⟩ | ⟨j1, j2⟩
    · have hf : 0 ≤ ((j : Nat) : Int) ∧ ((j : Nat) : Int) < ((oz_bas a k 4 : Nat) : Int) := by omega
      rw [j3, if_pos hf, j2, show ((j : Nat) : Int).toNat = j from Int.toNat_natCast j, pl_0, oz_ilt_f (by omega) (by omega), oz_ilt_t j1 (by omega)]
      unfold f_Baskets_runOf
      rw [pl_6, Int32.mul_comm, pk_mul, nI_add, oz_ck (by omega) (by omega), k_7 C.2.2.1 h1 j1, Option.bind_some]
    · rw [if_neg j2]
      by_cases c : y < 0
      · rw [if_pos c]
      · rw [if_neg c, if_neg (by
          rw [Int32.lt_iff_toInt_lt, oz_ti (by omega)]
          rw [Int32.lt_iff_toInt_lt] at c
          have c' : ¬ y.toInt < 0 := c
          omega)]
  · rw [if_neg h2, c_needBasket_f C h1]
    rfl
theorem m_run (V : oz_V a) (x y : Int32) : f_Mod_run x y (oz_md s a) = some ((oz_rnR a x y).elim (fun _ => nI 0) id, oz_md (lf_w s 389 0 ((oz_rnR a x y).elim (fun _ => nI 1) (fun _ => nI 0))) a) := by
  have hv := oz_v0 V
  unfold oz_V0 at hv
  unfold f_Mod_run oz_rnR
  rcases oz_isix x (a 4) (by omega) with ⟨k, h1, h2, h3⟩ | ⟨h1, h2⟩
  · have v2 := oz_v2 V h1
    unfold oz_V2 at v2
    rw [h3, if_pos (by omega), h2, m_isBasket_t h1 (by omega), Option.bind_some, if_pos oz_tt, show ((k : Nat) : Int).toNat = k from Int.toNat_natCast k]
    simp only [lf_lt]
    rw [oz_go0w, if_pos oz_go0, pl_4, m_ofBasket (by omega) (by omega), Option.bind_some, pl_1, oz_neg1]
    rcases oz_isix y (oz_bas a k 4) (by omega) with ⟨j, j1, j2, j3⟩ | ⟨j1, j2⟩
    · have hf : 0 ≤ ((j : Nat) : Int) ∧ ((j : Nat) : Int) < ((oz_bas a k 4 : Nat) : Int) := by omega
      rw [j3, if_pos hf, j2, show ((j : Nat) : Int).toNat = j from Int.toNat_natCast j, show f_Mod_isIn (nI j) (0 : Int32) (nI (oz_bas a k 4) - nI 1) = some true from m_isIx_t j1 (by omega), Option.bind_some, if_pos oz_tt, pl_5, nI_add, m_ofBasket (by omega) (by omega)]
      rfl
    · rw [if_neg j2, show f_Mod_isIn y (0 : Int32) (nI (oz_bas a k 4) - nI 1) = some false from m_isIn_o j1, Option.bind_some, if_neg oz_nc]
      rfl
  · rw [if_neg h2, m_isBasket_f h1, Option.bind_some, if_neg oz_nc]
    simp only [lf_lt]
    rw [oz_go1w, if_neg oz_go1]
    rfl
end
