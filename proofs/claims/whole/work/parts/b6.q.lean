/-! ===== the other queries answered ===== -/
section
variable {s : lf_S} {a : Nat → Nat} {L : List (Nat × Nat × List Nat)} {n o : Nat} {E : Nat → Nat → Nat} {T : Nat → Nat} {len : Nat}
def oz_he (a : Nat → Nat) (L : List (Nat × Nat × List Nat)) (i x y : Nat) : Int32 := if x = 0 then (if y = 0 then nI (oz_rc a L i) else nI (oz_rc a L i + 2)) else (if y = 0 then -nI (oz_bed a i 3) else nI (oz_bed a i 1))
theorem m_heHas {i x y : Nat} (V : oz_V a) (hi : i < a 3) (W : oz_LW s 34 a L) (hx : x < 2) (hy : y < 2) : ∃ t, f_Mod_heHas (nI i) (nI x) (nI y) (oz_md s a) = some (oz_he a L i x y, oz_md t a) ∧ oz_ak s t ∧ oz_LW t 34 a L := by
  have hv := oz_V6 V
  obtain ⟨t, k1, k2, k3, k4⟩ := m_reachA V hi W
  unfold f_Mod_heHas oz_he
  by_cases cx : x = 0
  · subst cx
    rw [if_pos (show nI 0 = (0 : Int32) from rfl), if_pos rfl]
    refine ⟨t, ?_, k3, k4⟩
    by_cases cy : y = 0
    · subst cy
      rw [if_pos (show nI 0 = (0 : Int32) from rfl), if_pos rfl, k1, Option.bind_some]
    · rw [if_neg (show ¬ (nI y = (0 : Int32)) by rw [pl_0, oz_eq (by omega) (by omega)]; exact cy), if_neg cy, k1, Option.bind_some, pl_2, nI_add]
  · refine ⟨s, ?_, oz_ak_rf, W⟩
    rw [if_neg (show ¬ (nI x = (0 : Int32)) by rw [pl_0, oz_eq (by omega) (by omega)]; exact cx), if_neg cx]
    by_cases cy : y = 0
    · subst cy
      rw [if_pos (show nI 0 = (0 : Int32) from rfl), if_pos rfl, pl_3, m_ofBed (by omega) (by omega), Option.bind_some]
    · rw [if_neg (show ¬ (nI y = (0 : Int32)) by rw [pl_0, oz_eq (by omega) (by omega)]; exact cy), if_neg cy, pl_1, m_ofBed (by omega) (by omega), Option.bind_some]
theorem oz_negle {d r : Nat} (hd : d < 100) (hr : r < 100) : (nI r < -nI d) = False ∧ (-nI d < nI r) = (¬ (d = 0 ∧ r = 0)) := by
  have e : (-nI d).toInt = -(d : Int) := by
    have h := Int32.toInt_sub (nI 0) (nI d)
    rw [oz_ti (by omega), oz_ti (by omega)] at h
    have e2 : nI 0 - nI d = -nI d := by
      rw [Int32.sub_eq_add_neg]
      exact Int32.zero_add _
    rw [e2] at h
    rw [h]
    have := Int.bmod_eq_of_le (n := (0 : Int) - (d : Int)) (m := 2 ^ 32) (by omega) (by omega)
    rw [show ((0 : Nat) : Int) - (d : Int) = (0 : Int) - (d : Int) from rfl, this]
    omega
  refine ⟨eq_false (fun h => ?_), propext ⟨fun h => ?_, fun h => ?_⟩⟩
  · rw [Int32.lt_iff_toInt_lt, e, oz_ti (by omega)] at h
    omega
  · rw [Int32.lt_iff_toInt_lt, e, oz_ti (by omega)] at h
    omega
  · rw [Int32.lt_iff_toInt_lt, e, oz_ti (by omega)]
    omega
def oz_rest (a : Nat → Nat) (L : List (Nat × Nat × List Nat)) (i : Nat) : Nat := if oz_bed a i 3 = 0 ∧ oz_rc a L i = 0 then 5 else 1
end
