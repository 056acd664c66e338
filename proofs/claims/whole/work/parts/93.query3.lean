/-! ===== change ===== -/
section
variable {s : lf_S} {a : Nat → Nat}
def oz_cgR (a : Nat → Nat) (x y : Int32) : Nat ⊕ Int32 := if 0 ≤ x.toInt ∧ x.toInt < a 4 then (if 0 ≤ y.toInt ∧ y.toInt < a 4 then Sum.inr (nI (oz_chg a x.toInt.toNat y.toInt.toNat)) else Sum.inl 3) else Sum.inl 3
theorem c_change (V : oz_V a) (C : oz_C s 10 a) (x y : Int32) : ∃ t, f_Main_change x y s = some (oz_cgR a x y, t) ∧ oz_fr (fun p => p = 9) s t := by
  have hv := oz_v0 V
  unfold oz_V0 at hv
  unfold f_Main_change oz_cgR
  rcases oz_isix x (a 4) (by omega) with ⟨k, h1, h2, h3⟩ | ⟨h1, h2⟩
  · have hf : 0 ≤ ((k : Nat) : Int) ∧ ((k : Nat) : Int) < ((a 4 : Nat) : Int) := by omega
    rw [h3, if_pos hf, h2, c_needBasket_t C h1 (by omega), show ((k : Nat) : Int).toNat = k from Int.toNat_natCast k]
    unfold lf_tb
    simp only [Option.bind_some]
    rcases oz_isix y (a 4) (by omega) with ⟨j, j1, j2, j3⟩ | ⟨j1, j2⟩
    · have hg : 0 ≤ ((j : Nat) : Int) ∧ ((j : Nat) : Int) < ((a 4 : Nat) : Int) := by omega
      obtain ⟨t, l1, l2⟩ := c_steps V C.2.2.1 (by omega) h1 j1
      rw [j3, if_pos hg, j2, c_needBasket_t C j1 (by omega), show ((j : Nat) : Int).toNat = j from Int.toNat_natCast j]
      simp only [Option.bind_some]
      rw [l1]
      exact ⟨t, rfl, l2⟩
    · rw [if_neg j2, c_needBasket_f C j1]
      exact ⟨s, rfl, oz_fr_rf⟩
  · rw [if_neg h2, c_needBasket_f C h1]
    exact ⟨s, rfl, oz_fr_rf⟩
theorem m_change (V : oz_V a) (x y : Int32) : ∃ t, f_Mod_change x y (oz_md s a) = some ((oz_cgR a x y).elim (fun _ => nI 0) id, oz_md t a) ∧ t.1 389 0 = (oz_cgR a x y).elim (fun _ => nI 1) (fun _ => nI 0) ∧ oz_fr (fun p => p = 389 ∨ p = 400) s t ∧ ∀ j, j ≠ 0 → t.1 389 j = s.1 389 j := by
  have hv := oz_v0 V
  unfold oz_V0 at hv
  unfold f_Mod_change oz_cgR
  rcases oz_isix x (a 4) (by omega) with ⟨k, h1, h2, h3⟩ | ⟨h1, h2⟩
  · have hf : 0 ≤ ((k : Nat) : Int) ∧ ((k : Nat) : Int) < ((a 4 : Nat) : Int) := by omega
    rw [h3, if_pos hf, h2, m_isBasket_t h1 (by omega), Option.bind_some, if_pos oz_tt, show ((k : Nat) : Int).toNat = k from Int.toNat_natCast k]
    rcases oz_isix y (a 4) (by omega) with ⟨j, j1, j2, j3⟩ | ⟨j1, j2⟩
    · have hg : 0 ≤ ((j : Nat) : Int) ∧ ((j : Nat) : Int) < ((a 4 : Nat) : Int) := by omega
      obtain ⟨t, l1, l2⟩ := m_changeOf (s := lf_w s 389 0 (nI 0)) V h1 j1
      rw [j3, if_pos hg, j2, m_isBasket_t j1 (by omega), Option.bind_some, if_pos oz_tt, show ((j : Nat) : Int).toNat = j from Int.toNat_natCast j]
      simp only [lf_lt]
      rw [oz_go0w, if_pos oz_go0, l1]
      exact ⟨t, rfl, by rw [l2.1 389 (by omega)]; exact oz_w_s, oz_fr_tr (oz_fr_w (by omega)) (oz_fr_mono l2 (by omega)), fun j hj => by rw [l2.1 389 (by omega), oz_w_n hj]⟩
    · rw [if_neg j2, m_isBasket_f j1, Option.bind_some, if_neg oz_nc]
      simp only [lf_lt]
      rw [oz_go1w, if_neg oz_go1]
      exact ⟨_, rfl, oz_w_s, oz_fr_w (by omega), fun j hj => oz_w_n hj⟩
  · rw [if_neg h2, m_isBasket_f h1, Option.bind_some, if_neg oz_nc]
    simp only [lf_lt]
    rw [oz_go1w, if_neg oz_go1]
    exact ⟨_, rfl, oz_w_s, oz_fr_w (by omega), fun j hj => oz_w_n hj⟩
end
