/-! ===== span ===== -/
def oz_spw (a : Nat → Nat) (n v : Nat) : Nat := (oz_yrs oz_yr (oz_up a 12 v) n).2 8
def oz_sps (a : Nat → Nat) (n : Nat) (y : Int32) (i : Nat) : Option Nat → Option Nat
  | none => some (oz_spw a n (i + 1))
  | some z => some (if y = 0 then min z (oz_spw a n (i + 1)) else max z (oz_spw a n (i + 1)))
def oz_spn (a : Nat → Nat) (x y : Int32) : Nat ⊕ Int32 := if 0 ≤ x.toInt ∧ x.toInt ≤ 60 then Sum.inr (oz_en (oz_it (oz_sps a x.toInt.toNat y) 6 none)) else Sum.inl 0
section
variable {s : lf_S} {a : Nat → Nat}
theorem oz_spw_le (V : oz_V a) {n v : Nat} (hv : v < 4294967296) : oz_spw a n v ≤ 9999 := by
  have h := (oz_yrs_V (f := oz_yr) (fun a V => oz_yr_V V) (oz_V_up V (k := 12) (v := v) (by omega)) n).1
  have := oz_v0 h
  unfold oz_V0 at this
  unfold oz_spw
  omega
theorem oz_sps_le (V : oz_V a) {n i : Nat} {y : Int32} (hi : i < 6) {x : Option Nat} (hx : ∀ z, x = some z → z ≤ 9999) : ∀ z, oz_sps a n y i x = some z → z ≤ 9999 := by
  intro z h
  have hw := oz_spw_le V (n := n) (v := i + 1) (by omega)
  cases x with
  | none =>
    have h' : some (oz_spw a n (i + 1)) = some z := h
    cases h'
    exact hw
  | some w =>
    have h' : some (if y = 0 then min w (oz_spw a n (i + 1)) else max w (oz_spw a n (i + 1))) = some z := h
    have hx' := hx w rfl
    cases h'
    split <;> omega
theorem c_span (V : oz_V a) (C : oz_C s 10 a) (x y : Int32) : ∃ t, f_Main_span x y s = some (oz_spn a x y, t) ∧ oz_fr (fun p => 40 ≤ p ∧ p < 64) s t := by
  unfold f_Main_span oz_spn
  rw [pl_60]
  rcases oz_is60 x with ⟨n, h1, h2, h3⟩ | ⟨h1, h2⟩
  · have hf : 0 ≤ ((n : Nat) : Int) ∧ ((n : Nat) : Int) ≤ 60 := by omega
    have hv : f_Main_needWithin (nI n) (0 : Int32) (nI 60) s = some (Sum.inr (), s) := c_needWithin_t (s := s) (x := n) (l := 0) (h := 60) (by omega) h1 (by omega)
    rw [h3, if_pos hf, h2, hv, show ((n : Nat) : Int).toNat = n from Int.toNat_natCast n]
    obtain ⟨w, k1, k2, k3, k4⟩ := oz_forE (N := 6) (fun i (x : Option Nat × lf_S) => x.1 = oz_it (oz_sps a n y) i none ∧ (∀ z, x.1 = some z → z ≤ 9999) ∧ oz_fr (fun p => 40 ≤ p ∧ p < 64) s x.2) (fun f i x => f_Main_span_12 (nI n) y f (oz_en x.1) (nI (i + 1)) x.2) (fun x => (oz_en x.1, x.2)) (by
      intro f x hx
      rw [f_Main_span_12, pl_6, oz_ilt_t (by omega) (by omega)]) (by
      intro f i x hi hx
      obtain ⟨x1, x2⟩ := x
      obtain ⟨i1, i2, i3⟩ := hx
      try dsimp only at i1 i2 i3
      have Cx : oz_C x2 10 a := oz_C_fr V C (fun p p1 p2 => i3.1 p (by omega))
      obtain ⟨t1, l1, l2, l3⟩ := c_copy (s := x2) (q := 40) (r := 10) (by omega) (oz_h01 V Cx)
      have Va : oz_V (oz_up a 12 (i + 1)) := oz_V_up V (by omega)
      have C1 : oz_C (lf_w t1 40 10 (nI (i + 1))) 40 (oz_up a 12 (i + 1)) := oz_C_num V (l3 a V Cx) (by omega)
      obtain ⟨t2, m1, m2, m3⟩ := c_passYears Va C1 h1
      have c0 := m2.1
      unfold oz_C0 at c0
      have ew : t2.1 40 8 = nI (oz_spw a n (i + 1)) := c0.2.2.1
      have hw := oz_spw_le V (n := n) (v := i + 1) (by omega)
      refine ⟨(oz_sps a n y i x1, t2), ⟨by rw [i1]; rfl, oz_sps_le V hi i2, oz_fr_tr i3 (oz_fr_tr (oz_fr_mono l2 (by omega)) (oz_fr_tr (oz_fr_w (by omega)) (oz_fr_mono m3 (by omega))))⟩, ?_⟩
      rw [f_Main_span_12, pl_6, oz_ilt_f (by omega) (by omega), l1, Option.bind_some]
      simp only [lf_lt, m1, Option.bind_some]
      rw [ew, pl_1, oz_neg1, nI_add]
      cases x1 with
      | none => rw [if_pos (show oz_en none = oz_N from rfl)]; rfl
      | some z =>
        have hz := i2 z rfl
        have es : oz_sps a n y i (some z) = some (if y = 0 then min z (oz_spw a n (i + 1)) else max z (oz_spw a n (i + 1))) := rfl
        rw [if_neg (show ¬ oz_en (some z) = oz_N from of_eq_false (oz_eqm1 (by omega))), es]
        show _ = f_Main_span_12 (nI n) y f (nI (if y = 0 then min z (oz_spw a n (i + 1)) else max z (oz_spw a n (i + 1)))) (nI (i + 1 + 1)) t2
        have ez : oz_en (some z) = nI z := rfl
        rw [ez]
        by_cases cy : y = 0
        · simp only [if_pos cy]
          by_cases c : z ≤ oz_spw a n (i + 1)
          · rw [oz_ile_t c (by omega), Nat.min_eq_left c]
          · rw [oz_ile_f (by omega) (by omega), Nat.min_eq_right (by omega)]
        · simp only [if_neg cy]
          by_cases c : oz_spw a n (i + 1) ≤ z
          · rw [oz_ile_t c (by omega), Nat.max_eq_left c]
          · rw [oz_ile_f (by omega) (by omega), Nat.max_eq_right (by omega)]) 6 0 5000 (none, s) (by omega) (by omega) ⟨rfl, fun z hz => (nomatch hz), oz_fr_rf⟩
    unfold lf_tb
    simp only [Option.bind_some, lf_lt, pl_1, oz_neg1]
    have k1' : f_Main_span_12 (nI n) y 5000 oz_N (nI 1) s = some (oz_en w.1, w.2) := k1
    rw [k1', Option.bind_some]
    exact ⟨w.2, by rw [k2], k4⟩
  · rw [if_neg h2, show f_Main_needWithin x (0 : Int32) (nI 60) s = some (Sum.inl 0, s) from c_needWithin_f h1]
    exact ⟨s, rfl, oz_fr_rf⟩
theorem m_span (V : oz_V a) (x y : Int32) : ∃ t, f_Mod_span x y (oz_md s a) = some ((oz_spn a x y).elim (fun _ => nI 0) id, oz_md t a) ∧ t.1 389 0 = (oz_spn a x y).elim (fun _ => nI 1) (fun _ => nI 0) ∧ oz_fr (fun p => p = 389 ∨ p = 392) s t ∧ ∀ j, j ≠ 0 → t.1 389 j = s.1 389 j := by
  unfold f_Mod_span oz_spn
  rw [pl_60]
  rcases oz_is60 x with ⟨n, h1, h2, h3⟩ | ⟨h1, h2⟩
  · have hf : 0 ≤ ((n : Nat) : Int) ∧ ((n : Nat) : Int) ≤ 60 := by omega
    have hi : f_Mod_isIn (nI n) (0 : Int32) (nI 60) = some true := m_isIn_t (v := n) (l := 0) (by omega) h1 (by omega)
    rw [h3, if_pos hf, h2, hi, Option.bind_some, if_pos (show true = true from rfl), show ((n : Nat) : Int).toNat = n from Int.toNat_natCast n]
    simp only [lf_lt]
    rw [show lf_w (oz_md s a) 389 0 (0 : Int32) = oz_md (lf_w s 389 0 (nI 0)) a from oz_md_wo (by omega)]
    obtain ⟨t, k1, k2, k3⟩ := m_aside (s := lf_w s 389 0 (nI 0)) (a := a)
    have e0 : (oz_md (lf_w s 389 0 (nI 0)) a).1 389 0 ≤ 0 := by
      rw [oz_md_o (by omega), oz_w_s]
      exact of_eq_true (oz_le_t (a := 0) (b := 0) (by omega) (by omega))
    have fin : t.1 389 0 = nI 0 ∧ oz_fr (fun p => p = 389 ∨ p = 392) s t ∧ ∀ j, j ≠ 0 → t.1 389 j = s.1 389 j := ⟨by rw [k2.1 389 (by omega)]; exact oz_w_s, oz_fr_tr (oz_fr_w (by omega)) (oz_fr_mono k2 (by omega)), fun j hj => by rw [k2.1 389 (by omega), oz_w_n hj]⟩
    refine ⟨t, ?_, fin.1, fin.2.1, fin.2.2⟩
    obtain ⟨w, l1, l2, l3⟩ := oz_forE (N := 6) (fun i (x : Option Nat) => x = oz_it (oz_sps a n y) i none ∧ (∀ z, x = some z → z ≤ 9999)) (fun f i x => f_Mod_span_37 (nI n) y f (oz_en x) (nI (i + 1)) (oz_md t a)) (fun x => (oz_en x, oz_md t a)) (by
      intro f x hx
      rw [f_Mod_span_37, pl_6, oz_ilt_t (by omega) (by omega)]) (by
      intro f i x hi hx
      obtain ⟨i1, i2⟩ := hx
      have Va : oz_V (oz_up a 12 (i + 1)) := oz_V_up V (by omega)
      have hg := m_goes (s := t) (d := 1) (f := oz_yr) (fun a V => oz_yr_V V) (fun s a V => m_passes1 V) Va h1
      have hb := m_back (s := t) (a := a) (a' := (oz_yrs oz_yr (oz_up a 12 (i + 1)) n).2) k3 (fun j hj => by rw [oz_yr_hi Va n j hj, oz_up_n (by omega)])
      have hw := oz_spw_le V (n := n) (v := i + 1) (by omega)
      refine ⟨oz_sps a n y i x, ⟨by rw [i1]; rfl, oz_sps_le V hi i2⟩, ?_⟩
      rw [f_Mod_span_37, pl_6, oz_ilt_f (by omega) (by omega), pl_12, oz_ck (by omega) (by omega), oz_md_w]
      simp only [lf_lt, pl_1, hg, Option.bind_some]
      rw [pl_8, oz_ck (by omega) (by omega), oz_md_r, hb, Option.bind_some, oz_neg1, nI_add]
      have ew : (oz_yrs oz_yr (oz_up a 12 (i + 1)) n).2 8 = oz_spw a n (i + 1) := rfl
      rw [ew]
      cases x with
      | none => rw [if_pos (show oz_en none = oz_N from rfl)]; rfl
      | some z =>
        have hz := i2 z rfl
        have es : oz_sps a n y i (some z) = some (if y = 0 then min z (oz_spw a n (i + 1)) else max z (oz_spw a n (i + 1))) := rfl
        rw [if_neg (show ¬ oz_en (some z) = oz_N from of_eq_false (oz_eqm1 (by omega))), es]
        show _ = f_Mod_span_37 (nI n) y f (nI (if y = 0 then min z (oz_spw a n (i + 1)) else max z (oz_spw a n (i + 1)))) (nI (i + 1 + 1)) (oz_md t a)
        have ez : oz_en (some z) = nI z := rfl
        rw [ez, m_lesser (by omega) (by omega), m_greater (by omega) (by omega)]
        by_cases cy : y = 0
        · simp only [if_pos cy, Option.bind_some]
        · simp only [if_neg cy, Option.bind_some]) 6 0 5000 none (by omega) (by omega) ⟨rfl, fun z hz => (nomatch hz)⟩
    have l1' : f_Mod_span_37 (nI n) y 5000 oz_N (nI 1) (oz_md t a) = some (oz_en w, oz_md t a) := l1
    rw [if_pos e0, k1, Option.bind_some, pl_1, oz_neg1, l1', Option.bind_some, l2]
    rfl
  · rw [if_neg h2, show f_Mod_isIn x (0 : Int32) (nI 60) = some false from m_isIn_o h1, Option.bind_some, if_neg (show ¬ (false = true) from Bool.noConfusion)]
    simp only [lf_lt]
    have e1 : ¬ (oz_md (lf_w s 389 0 (nI 1)) a).1 389 0 ≤ 0 := by
      rw [oz_md_o (by omega), oz_w_s]
      exact of_eq_false (oz_le_f (a := 1) (b := 0) (by omega) (by omega))
    rw [show lf_w (oz_md s a) 389 0 (1 : Int32) = oz_md (lf_w s 389 0 (nI 1)) a from oz_md_wo (by omega), if_neg e1]
    exact ⟨_, rfl, oz_w_s, oz_fr_w (by omega), fun j hj => oz_w_n hj⟩
end
