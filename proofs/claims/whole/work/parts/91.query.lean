/-! ===== store, hand, fault ===== -/
section
variable {s : lf_S} {a : Nat → Nat}
theorem oz_go0 : (oz_md (lf_w s 389 0 (nI 0)) a).1 389 0 ≤ 0 := by
  rw [oz_md_o (by omega), oz_w_s]
  exact of_eq_true (oz_le_t (a := 0) (b := 0) (by omega) (by omega))
theorem oz_go1 : ¬ (oz_md (lf_w s 389 0 (nI 1)) a).1 389 0 ≤ 0 := by
  rw [oz_md_o (by omega), oz_w_s]
  exact of_eq_false (oz_le_f (a := 1) (b := 0) (by omega) (by omega))
theorem oz_go0w : lf_w (oz_md s a) 389 0 (0 : Int32) = oz_md (lf_w s 389 0 (nI 0)) a := oz_md_wo (by omega)
theorem oz_go1w : lf_w (oz_md s a) 389 0 (1 : Int32) = oz_md (lf_w s 389 0 (nI 1)) a := oz_md_wo (by omega)
theorem oz_nc : ¬ (false = true) := Bool.noConfusion
theorem oz_tt : true = true := rfl
def oz_stR (a : Nat → Nat) (x : Int32) : Nat ⊕ Int32 := if 1 ≤ x.toInt ∧ x.toInt ≤ 6 then Sum.inr (nI (oz_sto a x.toInt.toNat)) else Sum.inl 3
theorem c_store (C : oz_C s 10 a) (x : Int32) : f_Main_store x s = some (oz_stR a x, s) := by
  unfold f_Main_store oz_stR
  rcases oz_isft x with ⟨f, f1, f2, f3, f4⟩ | ⟨f1, f2⟩
  · have hf : 1 ≤ ((f : Nat) : Int) ∧ ((f : Nat) : Int) ≤ 6 := by omega
    rw [f4, if_pos hf, f3, c_needFeet_t f1 f2]
    unfold lf_tb
    simp only [Option.bind_some]
    rw [oz_ck (by omega) (by omega), C.2.2.2.2.2.2 f f1 f2]
    rfl
  · rw [if_neg f2, c_needFeet_f f1]
    rfl
theorem m_store (x : Int32) : f_Mod_store x (oz_md s a) = some ((oz_stR a x).elim (fun _ => nI 0) id, oz_md (lf_w s 389 0 ((oz_stR a x).elim (fun _ => nI 1) (fun _ => nI 0))) a) := by
  unfold f_Mod_store oz_stR
  rw [pl_6]
  rcases oz_isft x with ⟨f, f1, f2, f3, f4⟩ | ⟨f1, f2⟩
  · have hf : 1 ≤ ((f : Nat) : Int) ∧ ((f : Nat) : Int) ≤ 6 := by omega
    have hi : f_Mod_isIn (nI f) (1 : Int32) (nI 6) = some true := m_isIn_t f1 f2 (by omega)
    rw [f4, if_pos hf, f3, hi, Option.bind_some, if_pos oz_tt]
    simp only [lf_lt]
    rw [oz_go0w, if_pos oz_go0, m_stored f1 f2]
    rfl
  · rw [if_neg f2, show f_Mod_isIn x (1 : Int32) (nI 6) = some false from m_isIn_o f1, Option.bind_some, if_neg oz_nc]
    simp only [lf_lt]
    rw [oz_go1w, if_neg oz_go1]
    rfl
def oz_hnR (a : Nat → Nat) (x y : Int32) : Nat ⊕ Int32 := if 0 ≤ x.toInt ∧ x.toInt < a 5 then Sum.inr (nI (if y = 0 then oz_sk a x.toInt.toNat else oz_wg a x.toInt.toNat)) else Sum.inl 3
theorem c_hand (V : oz_V a) (C : oz_C s 10 a) (x y : Int32) : f_Main_hand x y s = some (oz_hnR a x y, s) := by
  have hv := oz_v0 V
  unfold oz_V0 at hv
  unfold f_Main_hand oz_hnR f_Main_needHand
  rw [h_0 C.2.2.2.1, pl_1]
  rcases oz_isix x (a 5) (by omega) with ⟨k, h1, h2, h3⟩ | ⟨h1, h2⟩
  · have hn : f_Main_needIndex (nI k) (0 : Int32) (nI (a 5) - nI 1) s = some (Sum.inr (), s) := oz_dn_le h1 (by omega)
    rw [h3, if_pos (by omega), h2, hn]
    unfold lf_tb
    simp only [Option.bind_some]
    rw [oz_ck (by omega) (by omega), oz_ck (by omega) (by omega), h_1 C.2.2.2.1 h1, h_2 C.2.2.2.1 h1, show ((k : Nat) : Int).toNat = k from Int.toNat_natCast k]
    by_cases cy : y = 0
    · rw [if_pos cy, if_pos cy]
    · rw [if_neg cy, if_neg cy]
  · rw [if_neg h2, show f_Main_needIndex x (0 : Int32) (nI (a 5) - nI 1) s = some (Sum.inl 3, s) from c_needIndex_f h1]
    rfl
theorem m_hand (V : oz_V a) (x y : Int32) : f_Mod_hand x y (oz_md s a) = some ((oz_hnR a x y).elim (fun _ => nI 0) id, oz_md (lf_w s 389 0 ((oz_hnR a x y).elim (fun _ => nI 1) (fun _ => nI 0))) a) := by
  have hv := oz_v0 V
  unfold oz_V0 at hv
  unfold f_Mod_hand oz_hnR
  rcases oz_isix x (a 5) (by omega) with ⟨k, h1, h2, h3⟩ | ⟨h1, h2⟩
  · rw [h3, if_pos (by omega), h2, m_isHand_t h1 (by omega), Option.bind_some, if_pos oz_tt]
    simp only [lf_lt]
    rw [oz_go0w, if_pos oz_go0, m_skill (by omega), m_wage (by omega), show ((k : Nat) : Int).toNat = k from Int.toNat_natCast k]
    by_cases cy : y = 0
    · rw [if_pos cy, if_pos cy]; rfl
    · rw [if_neg cy, if_neg cy]; rfl
  · rw [if_neg h2, m_isHand_f h1, Option.bind_some, if_neg oz_nc]
    simp only [lf_lt]
    rw [oz_go1w, if_neg oz_go1]
    rfl
theorem c_fault : f_Main_fault s = some (s.1 1 2) := rfl
theorem m_fault : f_Mod_fault (oz_md s a) = some (s.1 389 12, oz_md (lf_w s 389 0 (nI 0)) a) := by
  unfold f_Mod_fault
  simp only [lf_lt]
  rw [oz_go0w, oz_md_o (by omega), oz_w_n (by omega)]
end
