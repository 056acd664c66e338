/-! ===== trial ===== -/
def oz_trl (a : Nat → Nat) (x y : Int32) (e : Nat) : Nat ⊕ Int32 := if 0 ≤ x.toInt ∧ x.toInt ≤ 60 then Sum.inr (if y = 0 then nI ((oz_yrs oz_yr a x.toInt.toNat).2 8) else nI (oz_opens (oz_yrs oz_yr a x.toInt.toNat).2)) else Sum.inl e
section
variable {s : lf_S} {a : Nat → Nat}
theorem oz_is60 (x : Int32) : (∃ f, f ≤ 60 ∧ x = nI f ∧ x.toInt = (f : Int)) ∨ ((x < nI 0 ∨ (¬ x < nI 0 ∧ nI 60 < x)) ∧ ¬ (0 ≤ x.toInt ∧ x.toInt ≤ 60)) := by
  by_cases c : 0 ≤ x.toInt ∧ x.toInt ≤ 60
  · left
    have e : x.toInt = ((x.toInt.toNat : Nat) : Int) := by omega
    exact ⟨x.toInt.toNat, by omega, oz_toInt_eq e (by omega), e⟩
  · right
    refine ⟨?_, c⟩
    rw [Int32.lt_iff_toInt_lt, Int32.lt_iff_toInt_lt, oz_ti (by omega), oz_ti (by omega)]
    omega
theorem c_needWithin_t {x l h : Nat} (h1 : l ≤ x) (h2 : x ≤ h) (h3 : h < 2147483648) : f_Main_needWithin (nI x) (nI l) (nI h) s = some (Sum.inr (), s) := by
  unfold f_Main_needWithin
  rw [oz_ilt_f h1 (by omega), oz_ile_t h2 h3]
theorem c_needWithin_f {x l h : Int32} (c : x < l ∨ (¬ x < l ∧ h < x)) : f_Main_needWithin x l h s = some (Sum.inl 0, s) := by
  unfold f_Main_needWithin
  rcases c with c | ⟨c1, c2⟩
  · rw [if_pos c]
  · rw [if_neg c1, if_neg (fun z => by
      rw [Int32.le_iff_toInt_le] at z
      rw [Int32.lt_iff_toInt_lt] at c2
      omega)]
theorem c_trial (V : oz_V a) (C : oz_C s 10 a) (x y : Int32) : ∃ t, f_Main_trial x y s = some (oz_trl a x y 0, t) ∧ oz_fr (fun p => 40 ≤ p ∧ p < 64) s t := by
  unfold f_Main_trial oz_trl
  rw [pl_60]
  rcases oz_is60 x with ⟨n, h1, h2, h3⟩ | ⟨h1, h2⟩
  · have hf : 0 ≤ ((n : Nat) : Int) ∧ ((n : Nat) : Int) ≤ 60 := by omega
    have hv : f_Main_needWithin (nI n) (0 : Int32) (nI 60) s = some (Sum.inr (), s) := c_needWithin_t (s := s) (x := n) (l := 0) (h := 60) (by omega) h1 (by omega)
    rw [h3, if_pos hf, h2, hv]
    obtain ⟨t1, k1, k2, k3⟩ := c_copy (s := s) (q := 40) (r := 10) (by omega) (oz_h01 V C)
    obtain ⟨t2, l1, l2, l3⟩ := c_passYears (s := t1) V (k3 a V C) h1
    have c0 := l2.1
    unfold oz_C0 at c0
    unfold lf_tb
    simp only [Option.bind_some, k1, l1]
    rw [c0.2.2.1, o_o l2.2.2.2.2.1, show ((n : Nat) : Int).toNat = n from Int.toNat_natCast n]
    refine ⟨t2, ?_, oz_fr_tr (oz_fr_mono k2 (by omega)) (oz_fr_mono l3 (by omega))⟩
    by_cases cy : y = 0
    · simp only [if_pos cy]
    · simp only [if_neg cy]
  · rw [if_neg h2, show f_Main_needWithin x (0 : Int32) (nI 60) s = some (Sum.inl 0, s) from c_needWithin_f h1]
    exact ⟨s, rfl, oz_fr_rf⟩
theorem m_trial (V : oz_V a) (x y : Int32) : ∃ t, f_Mod_trial x y (oz_md s a) = some ((oz_trl a x y 0).elim (fun _ => nI 0) id, oz_md t a) ∧ t.1 389 0 = (oz_trl a x y 0).elim (fun _ => nI 1) (fun _ => nI 0) ∧ oz_fr (fun p => p = 389 ∨ p = 392) s t ∧ ∀ j, j ≠ 0 → t.1 389 j = s.1 389 j := by
  unfold f_Mod_trial oz_trl
  rw [pl_60]
  rcases oz_is60 x with ⟨n, h1, h2, h3⟩ | ⟨h1, h2⟩
  · have hf : 0 ≤ ((n : Nat) : Int) ∧ ((n : Nat) : Int) ≤ 60 := by omega
    have hi : f_Mod_isIn (nI n) (0 : Int32) (nI 60) = some true := m_isIn_t (v := n) (l := 0) (by omega) h1 (by omega)
    rw [h3, if_pos hf, h2, hi, Option.bind_some, if_pos (show true = true from rfl), show ((n : Nat) : Int).toNat = n from Int.toNat_natCast n]
    simp only [lf_lt]
    rw [show lf_w (oz_md s a) 389 0 (0 : Int32) = oz_md (lf_w s 389 0 (nI 0)) a from oz_md_wo (by omega)]
    obtain ⟨t, k1, k2, k3⟩ := m_aside (s := lf_w s 389 0 (nI 0)) (a := a)
    have hg := m_goes (s := t) (d := 1) (f := oz_yr) (fun a V => oz_yr_V V) (fun s a V => m_passes1 V) V h1
    have Vn := (oz_yrs_V (f := oz_yr) (fun a V => oz_yr_V V) V n).1
    have hb := m_back (s := t) (a := a) (a' := (oz_yrs oz_yr a n).2) k3 (fun j hj => oz_yr_hi V n j hj)
    have e0 : (oz_md (lf_w s 389 0 (nI 0)) a).1 389 0 ≤ 0 := by
      rw [oz_md_o (by omega), oz_w_s]
      exact of_eq_true (oz_le_t (a := 0) (b := 0) (by omega) (by omega))
    have fin : t.1 389 0 = nI 0 ∧ oz_fr (fun p => p = 389 ∨ p = 392) s t ∧ ∀ j, j ≠ 0 → t.1 389 j = s.1 389 j := ⟨by rw [k2.1 389 (by omega)]; exact oz_w_s, oz_fr_tr (oz_fr_w (by omega)) (oz_fr_mono k2 (by omega)), fun j hj => by rw [k2.1 389 (by omega), oz_w_n hj]⟩
    refine ⟨t, ?_, fin.1, fin.2.1, fin.2.2⟩
    rw [if_pos e0, k1, Option.bind_some, pl_1, hg]
    simp only [Option.bind_some]
    rw [hb, m_openOnes Vn]
    simp only [Option.bind_some]
    by_cases cy : y = 0
    · rw [if_pos cy, if_pos cy, pl_8, oz_ck (by omega) (by omega), oz_md_r]
      rfl
    · rw [if_neg cy, if_neg cy]
      rfl
  · rw [if_neg h2, show f_Mod_isIn x (0 : Int32) (nI 60) = some false from m_isIn_o h1, Option.bind_some, if_neg (show ¬ (false = true) from Bool.noConfusion)]
    simp only [lf_lt]
    have e1 : ¬ (oz_md (lf_w s 389 0 (nI 1)) a).1 389 0 ≤ 0 := by
      rw [oz_md_o (by omega), oz_w_s]
      exact of_eq_false (oz_le_f (a := 1) (b := 0) (by omega) (by omega))
    rw [show lf_w (oz_md s a) 389 0 (1 : Int32) = oz_md (lf_w s 389 0 (nI 1)) a from oz_md_wo (by omega), if_neg e1]
    exact ⟨_, rfl, oz_w_s, oz_fr_w (by omega), fun j hj => oz_w_n hj⟩
end
