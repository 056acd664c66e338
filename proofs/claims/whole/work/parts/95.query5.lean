/-! ===== twins, lengths ===== -/
section
variable {s : lf_S} {a : Nat → Nat}
theorem c_twinsR (V : oz_V a) (C : oz_C s 10 a) : f_Main_twins s = some (nI (oz_twins a)) := by
  unfold f_Main_twins
  rw [c_twins V C.2.1, Option.bind_some]
theorem m_twinsR (V : oz_V a) : f_Mod_twins (oz_md s a) = some (nI (oz_twins a), oz_md (lf_w s 389 0 (nI 0)) a) := by
  unfold f_Mod_twins
  simp only [lf_lt]
  rw [oz_go0w, pl_0, m_twins V]
  rfl
theorem c_lengthsR (V : oz_V a) (C : oz_C s 10 a) : f_Main_lengths s = some (nI (oz_set (fun i => decide (0 < oz_sto a (i + 1))) 6)) := c_lengths V C.2.2.2.2.2.2
theorem m_lengthsR (V : oz_V a) : f_Mod_lengths (oz_md s a) = some (nI (oz_set (fun i => decide (0 < oz_sto a (i + 1))) 6), oz_md (lf_w s 389 0 (nI 0)) a) := by
  unfold f_Mod_lengths
  simp only [lf_lt]
  rw [oz_go0w, pl_0, pl_1, m_lengthsLoop V]
  rfl
end
