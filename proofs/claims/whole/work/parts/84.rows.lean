/-! ===== a line's bed or hand, in the class's holt and in the row ===== -/
section
variable {s u : lf_S} {a : Nat → Nat} {b : Nat}
theorem oz_bdu_o {v : Nat × Nat × Nat × Nat} {k : Nat} (h3 : k ≠ 3) (h : k < 13 + 4 * a 3 ∨ 13 + 4 * a 3 + 4 ≤ k) : oz_bdu a v k = a k := by
  unfold oz_bdu
  rw [oz_up_n h3, oz_up_n (by omega), oz_up_n (by omega), oz_up_n (by omega), oz_up_n (by omega)]
theorem oz_bdu_3 {v : Nat × Nat × Nat × Nat} : oz_bdu a v 3 = a 3 + 1 := oz_up_s
theorem oz_bdu_v {v : Nat × Nat × Nat × Nat} : oz_bed (oz_bdu a v) (a 3) 0 = v.1 ∧ oz_bed (oz_bdu a v) (a 3) 1 = v.2.1 ∧ oz_bed (oz_bdu a v) (a 3) 2 = v.2.2.1 ∧ oz_bed (oz_bdu a v) (a 3) 3 = v.2.2.2 := by
  unfold oz_bed oz_bdu
  refine ⟨?_, ?_, ?_, ?_⟩
  · rw [oz_up_n (by omega), oz_up_n (by omega), oz_up_n (by omega), oz_up_n (by omega), oz_up_s]
  · rw [oz_up_n (by omega), oz_up_n (by omega), oz_up_n (by omega), oz_up_s]
  · rw [oz_up_n (by omega), oz_up_n (by omega), oz_up_s]
  · rw [oz_up_n (by omega), oz_up_s]
theorem oz_bdu_b {v : Nat × Nat × Nat × Nat} {i w : Nat} (hi : i < a 3) (hw : w < 4) : oz_bed (oz_bdu a v) i w = oz_bed a i w := by
  show oz_bdu a v (13 + 4 * i + w) = a (13 + 4 * i + w)
  exact oz_bdu_o (by omega) (by omega)
theorem oz_V_bdu (V : oz_V a) {v : Nat × Nat × Nat × Nat} (hn : a 3 < 6) (h1 : v.1 ≤ 2) (h2 : v.2.1 ≤ 9) (h3 : 1 ≤ v.2.2.1) (h3' : v.2.2.1 ≤ 99) (h4 : v.2.2.2 ≤ 9) : oz_V (oz_bdu a v) := by
  have hv := oz_v0 V
  have eq : ∀ lo hi, 37 ≤ lo → oz_eqr lo hi a (oz_bdu a v) := fun lo hi hl i h1 h2 => oz_bdu_o (by omega) (by omega)
  refine oz_V_mk ?_ ?_ (oz_VK_cg V (oz_bdu_o (by omega) (by omega)) (eq 43 98 (by omega))) (oz_VH_cg V (oz_bdu_o (by omega) (by omega)) (eq 98 108 (by omega))) (oz_VO_cg V (oz_bdu_o (by omega) (by omega)) (oz_bdu_o (by omega) (by omega)) (eq 108 126 (by omega))) (oz_VS_cg V (eq 37 43 (by omega))) (oz_VL_cg V (eq 126 366 (by omega)))
  · unfold oz_V0 at hv ⊢
    rw [oz_bdu_3, oz_bdu_o (by omega) (by omega), oz_bdu_o (by omega) (by omega), oz_bdu_o (by omega) (by omega), oz_bdu_o (by omega) (by omega), oz_bdu_o (by omega) (by omega), oz_bdu_o (by omega) (by omega), oz_bdu_o (by omega) (by omega), oz_bdu_o (by omega) (by omega), oz_bdu_o (by omega) (by omega), oz_bdu_o (by omega) (by omega)]
    omega
  · intro i hi
    rw [oz_bdu_3] at hi
    unfold oz_V1
    by_cases c : i < a 3
    · rw [oz_bdu_b c (by omega), oz_bdu_b c (by omega), oz_bdu_b c (by omega), oz_bdu_b c (by omega)]
      exact oz_v1 V c
    · obtain rfl : i = a 3 := by omega
      rw [oz_bdu_v.1, oz_bdu_v.2.1, oz_bdu_v.2.2.1, oz_bdu_v.2.2.2]
      omega
theorem oz_C_bdu (V : oz_V a) (C : oz_C s b a) (hb : 10 ≤ b) {v : Nat × Nat × Nat × Nat} (hn : a 3 < 6) (f : oz_fr (fun p => p = 1) s u) : oz_C (oz_bdw u (b + 1) (a 3) v) b (oz_bdu a v) := by
  have eq : ∀ lo hi, 37 ≤ lo → oz_eqr lo hi a (oz_bdu a v) := fun lo hi hl i h1 h2 => oz_bdu_o (by omega) (by omega)
  have o : ∀ p, 10 ≤ p → (p < b + 1 ∨ b + 6 ≤ p) → (oz_bdw u (b + 1) (a 3) v).1 p = s.1 p := fun p h1 h2 => by
    unfold oz_bdw
    rw [oz_w_o (by omega), oz_w_o (by omega), oz_w_o (by omega), oz_w_o (by omega), oz_w_o (by omega), f.1 p (by omega)]
  refine ⟨oz_C0_cg C.1 (o b (by omega) (by omega)) (oz_bdu_o (by omega) (by omega)) (fun i h1 h2 => oz_bdu_o (by omega) (by omega)) (oz_bdu_o (by omega) (by omega)), ⟨?_, ?_⟩, oz_CK_cg V C.2.2.1 (fun p h1 h2 => o p (by omega) (by omega)) (oz_bdu_o (by omega) (by omega)) (eq 43 98 (by omega)), oz_CH_cg V C.2.2.2.1 (fun p h1 h2 => o p (by omega) (by omega)) (oz_bdu_o (by omega) (by omega)) (eq 98 108 (by omega)), oz_CO_cg V C.2.2.2.2.1 (fun p h1 h2 => o p (by omega) (by omega)) (oz_bdu_o (by omega) (by omega)) (eq 108 126 (by omega)), oz_CL_cg V C.2.2.2.2.2.1 (fun p h1 h2 => o p (by omega) (by omega)) (oz_bdu_o (by omega) (by omega)) (eq 126 366 (by omega)), oz_CS_cg C.2.2.2.2.2.2 (o (b + 23) (by omega) (by omega)) (eq 37 43 (by omega))⟩
  · unfold oz_bdw
    rw [oz_w_s, oz_bdu_3]
  · intro i hi
    rw [oz_bdu_3] at hi
    unfold oz_bdw
    by_cases c : i < a 3
    · have e1 := b_1 C.2.1 c
      have e2 := b_2 C.2.1 c
      have e3 := b_3 C.2.1 c
      have e4 := b_4 C.2.1 c
      rw [oz_bdu_b c (by omega), oz_bdu_b c (by omega), oz_bdu_b c (by omega), oz_bdu_b c (by omega)]
      refine ⟨?_, ?_, ?_, ?_⟩
      · rw [oz_w_o (by omega), oz_w_o (by omega), oz_w_o (by omega), oz_w_o (by omega), oz_w_n (by omega), f.1 _ (by omega)]; exact e1
      · rw [oz_w_o (by omega), oz_w_o (by omega), oz_w_o (by omega), oz_w_n (by omega), oz_w_o (by omega), f.1 _ (by omega)]; exact e2
      · rw [oz_w_o (by omega), oz_w_o (by omega), oz_w_n (by omega), oz_w_o (by omega), oz_w_o (by omega), f.1 _ (by omega)]; exact e3
      · rw [oz_w_o (by omega), oz_w_n (by omega), oz_w_o (by omega), oz_w_o (by omega), oz_w_o (by omega), f.1 _ (by omega)]; exact e4
    · obtain rfl : i = a 3 := by omega
      rw [oz_bdu_v.1, oz_bdu_v.2.1, oz_bdu_v.2.2.1, oz_bdu_v.2.2.2]
      refine ⟨?_, ?_, ?_, ?_⟩
      · rw [oz_w_o (by omega), oz_w_o (by omega), oz_w_o (by omega), oz_w_o (by omega), oz_w_s]
      · rw [oz_w_o (by omega), oz_w_o (by omega), oz_w_o (by omega), oz_w_s]
      · rw [oz_w_o (by omega), oz_w_o (by omega), oz_w_s]
      · rw [oz_w_o (by omega), oz_w_s]
end
