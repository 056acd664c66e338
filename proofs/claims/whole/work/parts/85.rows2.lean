/-! ===== a line's hand and order, in the class's holt and in the row ===== -/
section
variable {s u : lf_S} {a : Nat → Nat} {b : Nat}
theorem oz_hdu_o {v : Nat × Nat} {k : Nat} (h3 : k ≠ 5) (h : k < 98 + 2 * a 5 ∨ 98 + 2 * a 5 + 2 ≤ k) : oz_hdu a v k = a k := by
  unfold oz_hdu
  rw [oz_up_n h3, oz_up_n (by omega), oz_up_n (by omega)]
theorem oz_hdu_5 {v : Nat × Nat} : oz_hdu a v 5 = a 5 + 1 := oz_up_s
theorem oz_hdu_v {v : Nat × Nat} : oz_sk (oz_hdu a v) (a 5) = v.1 ∧ oz_wg (oz_hdu a v) (a 5) = v.2 := by
  unfold oz_sk oz_wg oz_hdu
  refine ⟨?_, ?_⟩
  · rw [oz_up_n (by omega), oz_up_n (by omega), oz_up_s]
  · rw [oz_up_n (by omega), oz_up_s]
theorem oz_hdu_b {v : Nat × Nat} {i : Nat} (hi : i < a 5) : oz_sk (oz_hdu a v) i = oz_sk a i ∧ oz_wg (oz_hdu a v) i = oz_wg a i := by
  show oz_hdu a v (98 + 2 * i) = a (98 + 2 * i) ∧ oz_hdu a v (98 + 2 * i + 1) = a (98 + 2 * i + 1)
  exact ⟨oz_hdu_o (by omega) (by omega), oz_hdu_o (by omega) (by omega)⟩
theorem oz_V_hdu (V : oz_V a) {v : Nat × Nat} (hn : a 5 < 5) (h1 : 1 ≤ v.1) (h1' : v.1 ≤ 9) (h2 : v.2 ≤ 99) : oz_V (oz_hdu a v) := by
  have hv := oz_v0 V
  refine oz_V_mk ?_ (oz_VB_cg V (oz_hdu_o (by omega) (by omega)) (fun i h1 h2 => oz_hdu_o (by omega) (by omega))) (oz_VK_cg V (oz_hdu_o (by omega) (by omega)) (fun i h1 h2 => oz_hdu_o (by omega) (by omega))) ?_ (oz_VO_cg V (oz_hdu_o (by omega) (by omega)) (oz_hdu_o (by omega) (by omega)) (fun i h1 h2 => oz_hdu_o (by omega) (by omega))) (oz_VS_cg V (fun i h1 h2 => oz_hdu_o (by omega) (by omega))) (oz_VL_cg V (fun i h1 h2 => oz_hdu_o (by omega) (by omega)))
  · unfold oz_V0 at hv ⊢
    rw [oz_hdu_5, oz_hdu_o (by omega) (by omega), oz_hdu_o (by omega) (by omega), oz_hdu_o (by omega) (by omega), oz_hdu_o (by omega) (by omega), oz_hdu_o (by omega) (by omega), oz_hdu_o (by omega) (by omega), oz_hdu_o (by omega) (by omega), oz_hdu_o (by omega) (by omega), oz_hdu_o (by omega) (by omega), oz_hdu_o (by omega) (by omega)]
    omega
  · intro i hi
    rw [oz_hdu_5] at hi
    unfold oz_V3
    by_cases c : i < a 5
    · rw [(oz_hdu_b c).1, (oz_hdu_b c).2]
      exact oz_v3 V c
    · obtain rfl : i = a 5 := by omega
      rw [oz_hdu_v.1, oz_hdu_v.2]
      omega
theorem oz_C_hdu (V : oz_V a) (C : oz_C s b a) (hb : 10 ≤ b) {v : Nat × Nat} (hn : a 5 < 5) (f : oz_fr (fun p => p = 1) s u) : oz_C (oz_hdw u (b + 15) (a 5) v) b (oz_hdu a v) := by
  have o : ∀ p, 10 ≤ p → (p < b + 15 ∨ b + 18 ≤ p) → (oz_hdw u (b + 15) (a 5) v).1 p = s.1 p := fun p h1 h2 => by
    unfold oz_hdw
    rw [oz_w_o (by omega), oz_w_o (by omega), oz_w_o (by omega), f.1 p (by omega)]
  refine ⟨oz_C0_cg C.1 (o b (by omega) (by omega)) (oz_hdu_o (by omega) (by omega)) (fun i h1 h2 => oz_hdu_o (by omega) (by omega)) (oz_hdu_o (by omega) (by omega)), oz_CB_cg V C.2.1 (fun p h1 h2 => o p (by omega) (by omega)) (oz_hdu_o (by omega) (by omega)) (fun i h1 h2 => oz_hdu_o (by omega) (by omega)), oz_CK_cg V C.2.2.1 (fun p h1 h2 => o p (by omega) (by omega)) (oz_hdu_o (by omega) (by omega)) (fun i h1 h2 => oz_hdu_o (by omega) (by omega)), ⟨?_, ?_⟩, oz_CO_cg V C.2.2.2.2.1 (fun p h1 h2 => o p (by omega) (by omega)) (oz_hdu_o (by omega) (by omega)) (fun i h1 h2 => oz_hdu_o (by omega) (by omega)), oz_CL_cg V C.2.2.2.2.2.1 (fun p h1 h2 => o p (by omega) (by omega)) (oz_hdu_o (by omega) (by omega)) (fun i h1 h2 => oz_hdu_o (by omega) (by omega)), oz_CS_cg C.2.2.2.2.2.2 (o (b + 23) (by omega) (by omega)) (fun i h1 h2 => oz_hdu_o (by omega) (by omega))⟩
  · unfold oz_hdw
    rw [oz_w_s, oz_hdu_5]
  · intro i hi
    rw [oz_hdu_5] at hi
    unfold oz_hdw
    by_cases c : i < a 5
    · have e1 := h_1 C.2.2.2.1 c
      have e2 := h_2 C.2.2.2.1 c
      rw [(oz_hdu_b c).1, (oz_hdu_b c).2]
      refine ⟨?_, ?_⟩
      · rw [oz_w_o (by omega), oz_w_o (by omega), oz_w_n (by omega), f.1 _ (by omega)]; exact e1
      · rw [oz_w_o (by omega), oz_w_n (by omega), oz_w_o (by omega), f.1 _ (by omega)]; exact e2
    · obtain rfl : i = a 5 := by omega
      rw [oz_hdu_v.1, oz_hdu_v.2]
      refine ⟨?_, ?_⟩
      · rw [oz_w_o (by omega), oz_w_o (by omega), oz_w_s]
      · rw [oz_w_o (by omega), oz_w_s]
theorem oz_odu_o {v : Nat × Nat} {k : Nat} (h3 : k ≠ 6) (h : k < 108 + 3 * a 6 ∨ 108 + 3 * a 6 + 3 ≤ k) : oz_odu a v k = a k := by
  unfold oz_odu
  rw [oz_up_n h3, oz_up_n (by omega), oz_up_n (by omega), oz_up_n (by omega)]
theorem oz_odu_6 {v : Nat × Nat} : oz_odu a v 6 = a 6 + 1 := oz_up_s
theorem oz_odu_v {v : Nat × Nat} : oz_ord (oz_odu a v) (a 6) 0 = v.1 ∧ oz_ord (oz_odu a v) (a 6) 1 = v.2 ∧ oz_ord (oz_odu a v) (a 6) 2 = 1 := by
  unfold oz_ord oz_odu
  refine ⟨?_, ?_, ?_⟩
  · rw [oz_up_n (by omega), oz_up_n (by omega), oz_up_n (by omega), oz_up_s]
  · rw [oz_up_n (by omega), oz_up_n (by omega), oz_up_s]
  · rw [oz_up_n (by omega), oz_up_s]
theorem oz_odu_b {v : Nat × Nat} {i w : Nat} (hi : i < a 6) (hw : w < 3) : oz_ord (oz_odu a v) i w = oz_ord a i w := by
  show oz_odu a v (108 + 3 * i + w) = a (108 + 3 * i + w)
  exact oz_odu_o (by omega) (by omega)
theorem oz_V_odu (V : oz_V a) {v : Nat × Nat} (hn : a 6 < 6) (h1 : v.1 < a 4) (h2 : 1 ≤ v.2) (h2' : v.2 ≤ 9) : oz_V (oz_odu a v) := by
  have hv := oz_v0 V
  have e4 : oz_odu a v 4 = a 4 := oz_odu_o (by omega) (by omega)
  refine oz_V_mk ?_ (oz_VB_cg V (oz_odu_o (by omega) (by omega)) (fun i h1 h2 => oz_odu_o (by omega) (by omega))) (oz_VK_cg V e4 (fun i h1 h2 => oz_odu_o (by omega) (by omega))) (oz_VH_cg V (oz_odu_o (by omega) (by omega)) (fun i h1 h2 => oz_odu_o (by omega) (by omega))) ?_ (oz_VS_cg V (fun i h1 h2 => oz_odu_o (by omega) (by omega))) (oz_VL_cg V (fun i h1 h2 => oz_odu_o (by omega) (by omega)))
  · unfold oz_V0 at hv ⊢
    rw [oz_odu_6, oz_odu_o (by omega) (by omega), oz_odu_o (by omega) (by omega), oz_odu_o (by omega) (by omega), oz_odu_o (by omega) (by omega), oz_odu_o (by omega) (by omega), oz_odu_o (by omega) (by omega), oz_odu_o (by omega) (by omega), oz_odu_o (by omega) (by omega), oz_odu_o (by omega) (by omega), oz_odu_o (by omega) (by omega)]
    omega
  · intro i hi
    rw [oz_odu_6] at hi
    unfold oz_V4
    rw [e4]
    by_cases c : i < a 6
    · rw [oz_odu_b c (by omega), oz_odu_b c (by omega), oz_odu_b c (by omega)]
      exact oz_v4 V c
    · obtain rfl : i = a 6 := by omega
      rw [oz_odu_v.1, oz_odu_v.2.1, oz_odu_v.2.2]
      omega
theorem oz_opens_odu {v : Nat × Nat} : oz_opens (oz_odu a v) = oz_opens a ||| 2 ^ a 6 := by
  unfold oz_opens
  rw [oz_odu_6]
  have e : oz_set (fun o => oz_ord (oz_odu a v) o 2 == 1) (a 6 + 1) = if (oz_ord (oz_odu a v) (a 6) 2 == 1) = true then oz_set (fun o => oz_ord (oz_odu a v) o 2 == 1) (a 6) ||| 2 ^ a 6 else oz_set (fun o => oz_ord (oz_odu a v) o 2 == 1) (a 6) := by
    rw [← oz_set_it, ← oz_set_it]
    rfl
  rw [e, oz_odu_v.2.2, if_pos (show ((1 : Nat) == 1) = true by decide), oz_set_congr (Q := fun o => oz_ord a o 2 == 1) (fun i hi => by rw [oz_odu_b hi (by omega)])]
theorem oz_C_odu (V : oz_V a) (C : oz_C s b a) (hb : 10 ≤ b) {v : Nat × Nat} (hn : a 6 < 6) (f : oz_fr (fun p => p = 1) s u) : oz_C (oz_odw u (b + 18) (a 6) (oz_opens a) v) b (oz_odu a v) := by
  have o : ∀ p, 10 ≤ p → (p < b + 18 ∨ b + 21 ≤ p) → (oz_odw u (b + 18) (a 6) (oz_opens a) v).1 p = s.1 p := fun p h1 h2 => by
    unfold oz_odw
    rw [oz_w_o (by omega), oz_w_o (by omega), oz_w_o (by omega), oz_w_o (by omega), f.1 p (by omega)]
  refine ⟨oz_C0_cg C.1 (o b (by omega) (by omega)) (oz_odu_o (by omega) (by omega)) (fun i h1 h2 => oz_odu_o (by omega) (by omega)) (oz_odu_o (by omega) (by omega)), oz_CB_cg V C.2.1 (fun p h1 h2 => o p (by omega) (by omega)) (oz_odu_o (by omega) (by omega)) (fun i h1 h2 => oz_odu_o (by omega) (by omega)), oz_CK_cg V C.2.2.1 (fun p h1 h2 => o p (by omega) (by omega)) (oz_odu_o (by omega) (by omega)) (fun i h1 h2 => oz_odu_o (by omega) (by omega)), oz_CH_cg V C.2.2.2.1 (fun p h1 h2 => o p (by omega) (by omega)) (oz_odu_o (by omega) (by omega)) (fun i h1 h2 => oz_odu_o (by omega) (by omega)), ⟨?_, ?_, ?_⟩, oz_CL_cg V C.2.2.2.2.2.1 (fun p h1 h2 => o p (by omega) (by omega)) (oz_odu_o (by omega) (by omega)) (fun i h1 h2 => oz_odu_o (by omega) (by omega)), oz_CS_cg C.2.2.2.2.2.2 (o (b + 23) (by omega) (by omega)) (fun i h1 h2 => oz_odu_o (by omega) (by omega))⟩
  · unfold oz_odw
    rw [oz_w_s, oz_odu_6]
  · unfold oz_odw
    rw [oz_w_n (by omega), oz_w_s, oz_opens_odu]
  · intro i hi
    rw [oz_odu_6] at hi
    unfold oz_odw
    by_cases c : i < a 6
    · have e1 := o_1 C.2.2.2.2.1 c
      have e2 := o_2 C.2.2.2.2.1 c
      rw [oz_odu_b c (by omega), oz_odu_b c (by omega)]
      refine ⟨?_, ?_⟩
      · rw [oz_w_o (by omega), oz_w_o (by omega), oz_w_o (by omega), oz_w_n (by omega), f.1 _ (by omega)]; exact e1
      · rw [oz_w_o (by omega), oz_w_o (by omega), oz_w_n (by omega), oz_w_o (by omega), f.1 _ (by omega)]; exact e2
    · obtain rfl : i = a 6 := by omega
      rw [oz_odu_v.1, oz_odu_v.2.1]
      refine ⟨?_, ?_⟩
      · rw [oz_w_o (by omega), oz_w_o (by omega), oz_w_o (by omega), oz_w_s]
      · rw [oz_w_o (by omega), oz_w_o (by omega), oz_w_s]
end
