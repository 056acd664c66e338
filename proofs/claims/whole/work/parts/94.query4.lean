/-! ===== price ===== -/
section
variable {s : lf_S} {a : Nat → Nat}
def oz_pcP (a : Nat → Nat) (x : Int32) : Nat ⊕ Int32 := if 1 ≤ x.toInt ∧ x.toInt ≤ 6 then Sum.inr (nI (oz_price a x.toInt.toNat)) else Sum.inl 3
theorem c_price (V : oz_V a) (C : oz_C s 10 a) (x : Int32) : f_Main_price x s = some (oz_pcP a x, s) := by
  unfold f_Main_price oz_pcP
  rcases oz_isft x with ⟨f, f1, f2, f3, f4⟩ | ⟨f1, f2⟩
  · have hf : 1 ≤ ((f : Nat) : Int) ∧ ((f : Nat) : Int) ≤ 6 := by omega
    rw [f4, if_pos hf, f3, c_needFeet_t f1 f2]
    unfold lf_tb
    simp only [Option.bind_some]
    rw [c_bestPrice V C.2.2.1 f2]
    rfl
  · rw [if_neg f2, c_needFeet_f f1]
    rfl
theorem m_price (V : oz_V a) (x : Int32) : f_Mod_price x (oz_md s a) = some ((oz_pcP a x).elim (fun _ => nI 0) id, oz_md (lf_w s 389 0 ((oz_pcP a x).elim (fun _ => nI 1) (fun _ => nI 0))) a) := by
  unfold f_Mod_price oz_pcP
  rw [pl_6]
  rcases oz_isft x with ⟨f, f1, f2, f3, f4⟩ | ⟨f1, f2⟩
  · have hf : 1 ≤ ((f : Nat) : Int) ∧ ((f : Nat) : Int) ≤ 6 := by omega
    have hi : f_Mod_isIn (nI f) (1 : Int32) (nI 6) = some true := m_isIn_t f1 f2 (by omega)
    rw [f4, if_pos hf, f3, hi, Option.bind_some, if_pos oz_tt]
    simp only [lf_lt]
    rw [oz_go0w, if_pos oz_go0, pl_0, pl_1, m_priceLoop V f2]
    rfl
  · rw [if_neg f2, show f_Mod_isIn x (1 : Int32) (nI 6) = some false from m_isIn_o f1, Option.bind_some, if_neg oz_nc]
    simp only [lf_lt]
    rw [oz_go1w, if_neg oz_go1]
    rfl
end
