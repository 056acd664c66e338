/-! ===== the cases with their own shape ===== -/
section
variable {s : lf_S} {a : Nat → Nat} {L : List (Nat × Nat × List Nat)} {n o : Nat} {E : Nat → Nat → Nat} {T : Nat → Nat} {len : Nat}
theorem oz_hol_k {p p' : Nat} (V : oz_V a) (hp : p ≤ len) (h : (oz_hol T len a p).1 = Sum.inr p') {j : Nat} (hj : j = 1 ∨ j = 2 ∨ 366 ≤ j) : (oz_hol T len a p).2 j = a j := by
  have tl : ∀ t, ∀ p2, oz_toW T len t (Sum.inr p) = Sum.inr p2 → p2 ≤ len := fun t p2 h => by
    by_cases c : oz_wd T len t p = true
    · rw [oz_toW_t c] at h
      cases h
      exact oz_wd_le c
    · rw [oz_toW_f (by cases hz : oz_isW T len t (Sum.inr p) with
        | false => rfl
        | true => exact absurd hz c)] at h
      cases h
      exact hp
  have hv := oz_V6 V
  revert h
  unfold oz_hol
  by_cases c1 : oz_wd T len 32 p = true ∧ a 3 < 6
  · rw [if_pos c1]
    intro _
    exact oz_bdu_o (by omega) (by omega)
  rw [if_neg c1]
  by_cases c2 : oz_wd T len 33 p = true ∧ a 4 < 5
  · rw [if_pos c2]
    intro h
    have pr := oz_wps_b (T := T) (len := len) 2 (fun _ => 0) 0 (oz_ndW T len 49 (oz_bs2 T len (oz_toW T len 33 (Sum.inr p)))) (by omega) (fun p2 h => oz_ndW_le h) (fun j hj => absurd hj (by omega))
    exact oz_kdu_o pr.2.2 (by omega) (by omega)
  rw [if_neg c2]
  by_cases c3 : oz_wd T len 34 p = true ∧ a 5 < 5
  · rw [if_pos c3]
    intro _
    exact oz_hdu_o (by omega) (by omega)
  rw [if_neg c3]
  by_cases c4 : oz_wd T len 35 p = true ∧ a 6 < 6
  · rw [if_pos c4]
    intro h
    exact oz_odu_o (by omega) (by omega)
  rw [if_neg c4]
  unfold oz_tls
  by_cases c5 : oz_wd T len 36 p = true
  · rw [if_pos c5]
    intro h
    have b1 := oz_nmV_le (T := T) (len := len) (lo := 1) (h := 6) (st := oz_toW T len 36 (Sum.inr p)) (by omega) (by omega) (tl 36)
    have b1' : 1 ≤ (oz_rdl T len (oz_toW T len 36 (Sum.inr p))).1.1 ∧ (oz_rdl T len (oz_toW T len 36 (Sum.inr p))).1.1 ≤ 6 := b1
    exact oz_up_n (by omega)
  rw [if_neg c5]
  by_cases c6 : oz_wd T len 37 p = true
  · rw [if_pos c6]
    intro h
    exact oz_up_n (by omega)
  rw [if_neg c6]
  by_cases c7 : oz_wd T len 38 p = true
  · rw [if_pos c7]
    intro h
    exact oz_up_n (by omega)
  rw [if_neg c7]
  by_cases c8 : oz_wd T len 39 p = true
  · rw [if_pos c8]
    intro h
    exact oz_up_n (by omega)
  rw [if_neg c8]
  by_cases c9 : oz_wd T len 40 p = true
  · rw [if_pos c9]
    intro h
    exact oz_up_n (by omega)
  rw [if_neg c9]
  intro h
  exact nomatch h
theorem oz_hrd_k {j : Nat} (hj : j = 1 ∨ j = 2 ∨ 366 ≤ j) : ∀ k p (a : Nat → Nat), oz_V a → p ≤ len → (oz_hrd T len k p a).2 j = a j := by
  intro k
  induction k with
  | zero => intro p a _ _; rfl
  | succ k ih =>
    intro p a V hp
    cases h : (oz_hol T len a p).1 with
    | inl q => rw [oz_hrd_l h]
    | inr p' =>
      rw [oz_hrd_r h]
      split
      · exact oz_hol_k V hp h hj
      · split
        · rw [ih _ _ (oz_hol_V V hp h) (oz_sb_le (by omega)).2]; exact oz_hol_k V hp h hj
        · rfl
theorem oz_hrA_k (V : oz_V a) {j : Nat} (hj : j = 1 ∨ j = 2 ∨ 366 ≤ j) : (oz_hrA T len a).2 j = a j := by
  unfold oz_hrA
  split
  · rfl
  · exact oz_hrd_k hj _ _ _ V (oz_sb_le (by omega)).2
theorem oz_hoA_k (V : oz_V a) {j : Nat} (hj : j = 1 ∨ j = 2 ∨ 366 ≤ j) : oz_hoA T len a j = a j := by
  unfold oz_hoA
  cases h : (oz_hrA T len a).1 with
  | inl q => rfl
  | inr q =>
    show (if a 0 < 12 then oz_up (oz_hrA T len a).2 0 (a 0 + 1) else a) j = a j
    split
    · rw [oz_up_n (by omega)]; exact oz_hrA_k V hj
    · rfl
/-! what a row is told by -/
theorem oz_V_eq {e : Nat → Nat} (V : oz_V e) (h : ∀ j, j < 366 → j ≠ 1 → j ≠ 2 → a j = e j) : oz_V a := by
  have h0 := oz_v0 V
  unfold oz_V0 at h0
  have e3 := h 3 (by omega) (by omega) (by omega)
  have e4 := h 4 (by omega) (by omega) (by omega)
  have e5 := h 5 (by omega) (by omega) (by omega)
  have e6 := h 6 (by omega) (by omega) (by omega)
  refine oz_V_mk ?_ (oz_VB_cg V e3 (fun i h1 h2 => h i (by omega) (by omega) (by omega))) (oz_VK_cg V e4 (fun i h1 h2 => h i (by omega) (by omega) (by omega))) (oz_VH_cg V e5 (fun i h1 h2 => h i (by omega) (by omega) (by omega))) (oz_VO_cg V e4 e6 (fun i h1 h2 => h i (by omega) (by omega) (by omega))) (oz_VS_cg V (fun i h1 h2 => h i (by omega) (by omega) (by omega))) (oz_VL_cg V (fun i h1 h2 => h i (by omega) (by omega) (by omega)))
  unfold oz_V0
  rw [h 0 (by omega) (by omega) (by omega), e3, e4, e5, e6, h 7 (by omega) (by omega) (by omega), h 8 (by omega) (by omega) (by omega), h 9 (by omega) (by omega) (by omega), h 10 (by omega) (by omega) (by omega), h 11 (by omega) (by omega) (by omega), h 12 (by omega) (by omega) (by omega)]
  exact h0
theorem oz_C_eq {e : Nat → Nat} {b : Nat} (V : oz_V e) (C : oz_C s b e) (h : ∀ j, j < 366 → j ≠ 1 → j ≠ 2 → a j = e j) : oz_C s b a := by
  have hh : ∀ lo hi, 3 ≤ lo → hi ≤ 366 → oz_eqr lo hi e a := fun lo hi h1 h2 i i1 i2 => h i (by omega) (by omega) (by omega)
  obtain ⟨C0, CB, CK, CH, CO, CL, CS⟩ := C
  exact ⟨oz_C0_cg C0 rfl (h 0 (by omega) (by omega) (by omega)) (hh 7 11 (by omega) (by omega)) (h 12 (by omega) (by omega) (by omega)), oz_CB_cg V CB (fun _ _ _ => rfl) (h 3 (by omega) (by omega) (by omega)) (hh _ _ (by omega) (by omega)), oz_CK_cg V CK (fun _ _ _ => rfl) (h 4 (by omega) (by omega) (by omega)) (hh _ _ (by omega) (by omega)), oz_CH_cg V CH (fun _ _ _ => rfl) (h 5 (by omega) (by omega) (by omega)) (hh _ _ (by omega) (by omega)), oz_CO_cg V CO (fun _ _ _ => rfl) (h 6 (by omega) (by omega) (by omega)) (hh _ _ (by omega) (by omega)), oz_CL_cg V CL (fun _ _ _ => rfl) (h 11 (by omega) (by omega) (by omega)) (hh _ _ (by omega) (by omega)), oz_CS_cg CS rfl (hh _ _ (by omega) (by omega))⟩
end
