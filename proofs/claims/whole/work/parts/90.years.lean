/-! ===== years ===== -/
def oz_yrR (a : Nat → Nat) (x : Int32) : Nat ⊕ Int32 := if 1 ≤ x.toInt ∧ x.toInt ≤ 60 then Sum.inr (nI (oz_yrs oz_yr a x.toInt.toNat).1) else Sum.inl 0
def oz_yrA (a : Nat → Nat) (x : Int32) : Nat → Nat := if 1 ≤ x.toInt ∧ x.toInt ≤ 60 then (oz_yrs oz_yr a x.toInt.toNat).2 else a
theorem oz_isr (x : Int32) (l h : Nat) (hl : l ≤ h) (hh : h < 10000) : (∃ f, l ≤ f ∧ f ≤ h ∧ x = nI f ∧ x.toInt = (f : Int)) ∨ ((x < nI l ∨ (¬ x < nI l ∧ nI h < x)) ∧ ¬ ((l : Int) ≤ x.toInt ∧ x.toInt ≤ (h : Int))) := by
  by_cases c : (l : Int) ≤ x.toInt ∧ x.toInt ≤ (h : Int)
  · left
    have e : x.toInt = ((x.toInt.toNat : Nat) : Int) := by omega
    exact ⟨x.toInt.toNat, by omega, by omega, oz_toInt_eq e (by omega), e⟩
  · right
    refine ⟨?_, c⟩
    rw [Int32.lt_iff_toInt_lt, Int32.lt_iff_toInt_lt, oz_ti (by omega), oz_ti (by omega)]
    omega
section
variable {s : lf_S} {a : Nat → Nat} {n o : Nat} {E : Nat → Nat → Nat}
theorem c_years (V : oz_V a) (C : oz_C s 10 a) (hE : ∀ i, i < n → oz_V (E i)) (P : oz_PC s n o E) (x : Int32) : ∃ t o', f_Main_years x s = some (oz_yrR a x, t) ∧ oz_C t 10 (oz_yrA a x) ∧ (if 1 ≤ x.toInt ∧ x.toInt ≤ 60 then oz_PC t (oz_pn n) o' (oz_pE E n a) else t = s) ∧ oz_fr (fun p => p = 0 ∨ (10 ≤ p ∧ p < 34) ∨ (101 ≤ p ∧ p < 389)) s t ∧ ∀ j, j ≠ 9 → j ≠ 10 → t.1 0 j = s.1 0 j := by
  unfold f_Main_years oz_yrR oz_yrA
  rw [pl_1, pl_60]
  rcases oz_isr x 1 60 (by omega) (by omega) with ⟨k, h0, h1, h2, h3⟩ | ⟨h1, h2⟩
  · have hf : 1 ≤ ((k : Nat) : Int) ∧ ((k : Nat) : Int) ≤ 60 := by omega
    simp only [h3, if_pos hf]
    rw [h2, c_needWithin_t h0 h1 (by omega), show ((k : Nat) : Int).toNat = k from Int.toNat_natCast k]
    obtain ⟨t1, o', k1, k2, k3, k4⟩ := c_remember V C hE P
    have C1 : oz_C t1 10 a := oz_C_fr V C (fun p p1 p2 => k3.1 p (by omega))
    obtain ⟨t2, l1, l2, l3⟩ := c_passYears V C1 h1
    unfold lf_tb
    simp only [Option.bind_some, k1, l1]
    have hV : ∀ i, i < oz_pn n → oz_V (oz_pE E n a i) := by
      intro i hi
      have p1 := P.1
      unfold oz_pn at hi
      unfold oz_pE
      split at hi
      · rename_i c
        rw [if_pos c]
        split
        · exact V
        · exact hE (i + 1) (by omega)
      · rename_i c
        rw [if_neg c]
        split
        · exact V
        · exact hE i (by omega)
    refine ⟨t2, o', rfl, l2, ⟨k2.1, k2.2.1, ?_, ?_, fun i hi => oz_C_fr (hV i hi) (k2.2.2.2.2 i hi) (fun p p1 p2 => l3.1 p (by omega))⟩, oz_fr_tr (oz_fr_mono k3 (by omega)) (oz_fr_mono l3 (by omega)), fun j h1 h2 => by rw [l3.1 0 (by omega)]; exact k4 j h1 h2⟩
    · rw [l3.1 0 (by omega)]; exact k2.2.2.1
    · rw [l3.1 0 (by omega)]; exact k2.2.2.2.1
  · have h2' : ¬ (1 ≤ x.toInt ∧ x.toInt ≤ 60) := h2
    simp only [if_neg h2']
    rw [c_needWithin_f h1]
    exact ⟨s, o, rfl, C, rfl, oz_fr_rf, fun _ _ _ => rfl⟩
theorem m_years (V : oz_V a) (P : oz_PM s n E) (x : Int32) : ∃ t, f_Mod_years x (oz_md s a) = some ((oz_yrR a x).elim (fun _ => nI 0) id, oz_md t (oz_yrA a x)) ∧ t.1 389 0 = (oz_yrR a x).elim (fun _ => nI 1) (fun _ => nI 0) ∧ (if 1 ≤ x.toInt ∧ x.toInt ≤ 60 then oz_PM t (oz_pn n) (oz_pE E n a) else oz_PM t n E) ∧ oz_fr (fun p => p = 389 ∨ p = 393) s t ∧ ∀ j, j ≠ 0 → j ≠ 6 → t.1 389 j = s.1 389 j := by
  unfold f_Mod_years oz_yrR oz_yrA
  rw [pl_60]
  rcases oz_isr x 1 60 (by omega) (by omega) with ⟨k, h0, h1, h2, h3⟩ | ⟨h1, h2⟩
  · have hf : 1 ≤ ((k : Nat) : Int) ∧ ((k : Nat) : Int) ≤ 60 := by omega
    have hi : f_Mod_isIn (nI k) (1 : Int32) (nI 60) = some true := m_isIn_t h0 h1 (by omega)
    simp only [h3, if_pos hf]
    rw [h2, hi, Option.bind_some, if_pos (show true = true from rfl), show ((k : Nat) : Int).toNat = k from Int.toNat_natCast k]
    simp only [lf_lt]
    rw [show lf_w (oz_md s a) 389 0 (0 : Int32) = oz_md (lf_w s 389 0 (nI 0)) a from oz_md_wo (by omega)]
    have e0 : (oz_md (lf_w s 389 0 (nI 0)) a).1 389 0 ≤ 0 := by
      rw [oz_md_o (by omega), oz_w_s]
      exact of_eq_true (oz_le_t (a := 0) (b := 0) (by omega) (by omega))
    have P1 : oz_PM (lf_w s 389 0 (nI 0)) n E := ⟨P.1, by rw [oz_w_n (by omega)]; exact P.2.1, fun i j hi hj => by rw [oz_w_o (by omega)]; exact P.2.2 i j hi hj⟩
    obtain ⟨t, k1, k2, k3, k4⟩ := m_remembers (a := a) P1
    have hg := m_goes (s := t) (d := 1) (f := oz_yr) (fun a V => oz_yr_V V) (fun s a V => m_passes1 V) V h1
    rw [if_pos e0, k1, Option.bind_some, pl_1, hg, Option.bind_some]
    exact ⟨t, rfl, by rw [k4 0 (by omega)]; exact oz_w_s, k2, oz_fr_tr (oz_fr_w (by omega)) k3, fun j j1 j2 => by rw [k4 j j2, oz_w_n j1]⟩
  · have h2' : ¬ (1 ≤ x.toInt ∧ x.toInt ≤ 60) := h2
    simp only [if_neg h2']
    rw [show f_Mod_isIn x (1 : Int32) (nI 60) = some false from m_isIn_o h1, Option.bind_some, if_neg (show ¬ (false = true) from Bool.noConfusion)]
    simp only [lf_lt]
    have e1 : ¬ (oz_md (lf_w s 389 0 (nI 1)) a).1 389 0 ≤ 0 := by
      rw [oz_md_o (by omega), oz_w_s]
      exact of_eq_false (oz_le_f (a := 1) (b := 0) (by omega) (by omega))
    rw [show lf_w (oz_md s a) 389 0 (1 : Int32) = oz_md (lf_w s 389 0 (nI 1)) a from oz_md_wo (by omega), if_neg e1]
    exact ⟨_, rfl, oz_w_s, ⟨P.1, by rw [oz_w_n (by omega)]; exact P.2.1, fun i j hi hj => by rw [oz_w_o (by omega)]; exact P.2.2 i j hi hj⟩, oz_fr_w (by omega), fun j j1 j2 => oz_w_n j1⟩
end
