/-! ===== the lines of an order, of rods, and of one number: the model's ===== -/
def oz_odu (a : Nat → Nat) (v : Nat × Nat) : Nat → Nat := oz_up (oz_up (oz_up (oz_up a (108 + 3 * a 6 + 0) v.1) (108 + 3 * a 6 + 1) v.2) (108 + 3 * a 6 + 2) 1) 6 (a 6 + 1)
def oz_rdl (T : Nat → Nat) (len : Nat) (st : Nat ⊕ Nat) : (Nat × Nat) × (Nat ⊕ Nat) := ((oz_nmV T len 1 (nI 6) st, oz_nmV T len 0 (nI 999) (oz_nmS T len 1 (nI 6) st)), oz_nmS T len 0 (nI 999) (oz_nmS T len 1 (nI 6) st))
section
variable {s : lf_S} {T : Nat → Nat} {len : Nat}
theorem m_orderLine {a : Nat → Nat} {st : Nat ⊕ Nat} {y : Int32} (X : oz_MX (oz_md s a) T len st) (h9 : s.1 389 9 = oz_N) (hn : a 6 < 6) : ∃ u, f_Mod_orderLine y (oz_md s a) = some (oz_md u (match (oz_odl T len (nI (a 4) - nI 1) st).2 with
    | Sum.inl _ => a
    | Sum.inr _ => oz_odu a (oz_odl T len (nI (a 4) - nI 1) st).1)) ∧ oz_MX (oz_md u a) T len (oz_odl T len (nI (a 4) - nI 1) st).2 ∧ oz_fm (oz_md s a) (oz_md u a) := by
  obtain ⟨w3, u3, d1, d2, d3, d4⟩ := m_figures X (lo := 0) (hi := nI (a 4) - nI 1) (by omega)
  obtain ⟨w4, u4, e1, e2, e3, e4⟩ := m_figures d2 (lo := 1) (hi := nI 9) (by omega)
  have f4 : oz_fm (oz_md s a) u4 := oz_fm_tr d3 e3
  have hu := oz_fm_md f4
  unfold f_Mod_orderLine
  rw [pl_6, oz_ck (by omega) (by omega), oz_md_r, if_neg (by rw [oz_eq (by omega) (by omega)]; omega), pl_4, oz_ck (by omega) (by omega), oz_md_r]
  simp only [lf_lt, pl_0, pl_1, pl_9, d1, e1, Option.bind_some, oz_neg1]
  unfold oz_odl
  have n9 : u4.1 389 9 = oz_N := by rw [f4.2 9 (by omega) (by omega), oz_md_o (by omega)]; exact h9
  refine ⟨u4, ?_, oz_MX_md e2 n9, by rw [← hu]; exact f4⟩
  cases hs : oz_nmS T len 1 (nI 9) (oz_nmS T len 0 (nI (a 4) - nI 1) st) with
  | inl q =>
    rw [hs] at e2
    rw [if_neg (oz_atl e2)]
    exact congrArg some hu
  | inr p =>
    obtain ⟨p5, hp5⟩ := oz_nmS_r hs
    have ew3 := d4 p5 hp5
    have ew4 := e4 p hs
    rw [hs] at e2
    rw [if_pos (oz_at e2), ew3, ew4]
    have h6 : u4.1 390 6 = nI (a 6) := by rw [hu]; exact oz_md_r
    have e : ∀ k v a', lf_w (oz_md u4 a') 390 k (nI v) = oz_md u4 (oz_up a' k v) := fun k v a' => oz_md_w
    unfold f_Mod_takes oz_odu
    rw [pl_6, oz_ck (by omega) (by omega), h6, pl_108, pl_3, pk_mul, nI_add]
    simp only [lf_lt, pl_0, pl_1, pl_2, nI_add]
    rw [oz_ck (by omega) (by omega), oz_ck (by omega) (by omega), oz_ck (by omega) (by omega), oz_ck (by omega) (by omega), oz_ck (by omega) (by omega), oz_w_n (by omega), oz_w_n (by omega), oz_w_n (by omega), h6, nI_add, Option.bind_some]
    conv => lhs; rw [hu]
    rw [e, e, e, e]
theorem m_tells {a : Nat → Nat} {st : Nat ⊕ Nat} {k lo : Nat} {hi : Int32} (hk : k < 366) (hlo : lo ≤ 1000) (X : oz_MX (oz_md s a) T len st) (h9 : s.1 389 9 = oz_N) : ∃ u, f_Mod_tells (nI k) (nI lo) hi (oz_md s a) = some (oz_md u (match oz_nmS T len lo hi st with
    | Sum.inl _ => a
    | Sum.inr _ => oz_up a k (oz_nmV T len lo hi st))) ∧ oz_MX (oz_md u a) T len (oz_nmS T len lo hi st) ∧ oz_fm (oz_md s a) (oz_md u a) := by
  obtain ⟨w4, u4, e1, e2, f4, e4⟩ := m_figures X (lo := lo) (hi := hi) hlo
  have hu := oz_fm_md f4
  unfold f_Mod_tells
  simp only [lf_lt, pl_1, e1, Option.bind_some, oz_neg1]
  have n9 : u4.1 389 9 = oz_N := by rw [f4.2 9 (by omega) (by omega), oz_md_o (by omega)]; exact h9
  refine ⟨u4, ?_, oz_MX_md e2 n9, by rw [← hu]; exact f4⟩
  cases hs : oz_nmS T len lo hi st with
  | inl q =>
    rw [hs] at e2
    rw [if_neg (oz_atl e2)]
    exact congrArg some hu
  | inr p =>
    have ew4 := e4 p hs
    rw [hs] at e2
    rw [if_pos (oz_at e2), ew4, oz_ck (by omega) (by omega)]
    conv => lhs; rw [hu]
    rw [oz_md_w]
theorem oz_nmV_le {lo h : Nat} {st : Nat ⊕ Nat} (hlo : lo ≤ h) (hh : h ≤ 1000) (hl : ∀ p, st = Sum.inr p → p ≤ len) : lo ≤ oz_nmV T len lo (nI h) st ∧ oz_nmV T len lo (nI h) st ≤ h := by
  cases st with
  | inl q => exact ⟨Nat.le_refl _, hlo⟩
  | inr p =>
    show lo ≤ (if oz_nm1 T len lo (nI h) p = true then (oz_dgs T len 4 p 0).2 else lo) ∧ _ ≤ h
    have hd := oz_dgs_le (T := T) 4 p 0 (hl p rfl)
    have hd2 : (oz_dgs T len 4 p 0).2 ≤ 10000 := hd.2.2.2
    show lo ≤ (if oz_nm1 T len lo (nI h) p = true then (oz_dgs T len 4 p 0).2 else lo) ∧ (if oz_nm1 T len lo (nI h) p = true then (oz_dgs T len 4 p 0).2 else lo) ≤ h
    split
    · rename_i c
      have := of_decide_eq_true c
      have h4 := this.2.2.2
      rw [oz_le (by omega) (by omega)] at h4
      exact ⟨this.2.2.1, h4⟩
    · exact ⟨Nat.le_refl _, hlo⟩
theorem oz_MX_l {st : Nat ⊕ Nat} (X : oz_MX s T len st) : ∀ p, st = Sum.inr p → p ≤ len := by
  intro p hp
  rw [hp] at X
  exact oz_MX_p X
theorem m_rodsLine {a : Nat → Nat} {st : Nat ⊕ Nat} (X : oz_MX (oz_md s a) T len st) (h9 : s.1 389 9 = oz_N) : ∃ u, f_Mod_rodsLine (oz_md s a) = some (oz_md u (match (oz_rdl T len st).2 with
    | Sum.inl _ => a
    | Sum.inr _ => oz_up a (37 + (oz_rdl T len st).1.1 - 1) (oz_rdl T len st).1.2)) ∧ oz_MX (oz_md u a) T len (oz_rdl T len st).2 ∧ oz_fm (oz_md s a) (oz_md u a) := by
  obtain ⟨w3, u3, d1, d2, d3, d4⟩ := m_figures X (lo := 1) (hi := nI 6) (by omega)
  obtain ⟨w4, u4, e1, e2, e3, e4⟩ := m_figures d2 (lo := 0) (hi := nI 999) (by omega)
  have f4 : oz_fm (oz_md s a) u4 := oz_fm_tr d3 e3
  have hu := oz_fm_md f4
  have b1 := oz_nmV_le (T := T) (len := len) (lo := 1) (h := 6) (by omega) (by omega) (oz_MX_l X)
  unfold f_Mod_rodsLine
  simp only [lf_lt, pl_0, pl_1, pl_6, pl_999, d1, e1, Option.bind_some, oz_neg1]
  unfold oz_rdl
  have n9 : u4.1 389 9 = oz_N := by rw [f4.2 9 (by omega) (by omega), oz_md_o (by omega)]; exact h9
  refine ⟨u4, ?_, oz_MX_md e2 n9, by rw [← hu]; exact f4⟩
  cases hs : oz_nmS T len 0 (nI 999) (oz_nmS T len 1 (nI 6) st) with
  | inl q =>
    rw [hs] at e2
    rw [if_neg (oz_atl e2)]
    exact congrArg some hu
  | inr p =>
    obtain ⟨p5, hp5⟩ := oz_nmS_r hs
    have ew3 := d4 p5 hp5
    have ew4 := e4 p hs
    rw [hs] at e2
    rw [if_pos (oz_at e2), ew3, ew4, pl_37, nI_add, oz_sub (by omega), oz_ck (by omega) (by omega)]
    conv => lhs; rw [hu]
    rw [oz_md_w]
end
