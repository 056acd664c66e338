/-! ===== a line's basket, in the class's holt and in the row ===== -/
section
variable {s u : lf_S} {a : Nat → Nat} {b : Nat}
theorem oz_kdu_o {v : Nat × Nat × Nat × Nat} {R : Nat → Nat} {c k : Nat} (hc : c ≤ 6) (h4 : k ≠ 4) (h : k < 43 + 11 * a 4 ∨ 43 + 11 * a 4 + 11 ≤ k) : oz_kdu a v c R k = a k := by
  unfold oz_kdu
  rw [oz_up_n h4, oz_up_n (by omega), oz_up_n (by omega), oz_up_n (by omega), oz_up_n (by omega), oz_up_n (by omega)]
  unfold oz_wrR
  rw [if_neg (by omega)]
theorem oz_kdu_4 {v : Nat × Nat × Nat × Nat} {R : Nat → Nat} {c : Nat} : oz_kdu a v c R 4 = a 4 + 1 := oz_up_s
theorem oz_kdu_v {v : Nat × Nat × Nat × Nat} {R : Nat → Nat} {c : Nat} : oz_bas (oz_kdu a v c R) (a 4) 0 = v.1 ∧ oz_bas (oz_kdu a v c R) (a 4) 1 = v.2.1 ∧ oz_bas (oz_kdu a v c R) (a 4) 2 = v.2.2.1 ∧ oz_bas (oz_kdu a v c R) (a 4) 3 = v.2.2.2 ∧ oz_bas (oz_kdu a v c R) (a 4) 4 = c ∧ ∀ i, i < c → oz_bas (oz_kdu a v c R) (a 4) (5 + i) = R i := by
  unfold oz_bas oz_kdu
  refine ⟨?_, ?_, ?_, ?_, ?_, fun i hi => ?_⟩
  · rw [oz_up_n (by omega), oz_up_n (by omega), oz_up_n (by omega), oz_up_n (by omega), oz_up_n (by omega), oz_up_s]
  · rw [oz_up_n (by omega), oz_up_n (by omega), oz_up_n (by omega), oz_up_n (by omega), oz_up_s]
  · rw [oz_up_n (by omega), oz_up_n (by omega), oz_up_n (by omega), oz_up_s]
  · rw [oz_up_n (by omega), oz_up_n (by omega), oz_up_s]
  · rw [oz_up_n (by omega), oz_up_s]
  · rw [oz_up_n (by omega), oz_up_n (by omega), oz_up_n (by omega), oz_up_n (by omega), oz_up_n (by omega), oz_up_n (by omega)]
    unfold oz_wrR
    rw [if_pos (by omega), show 43 + 11 * a 4 + (5 + i) - (43 + 11 * a 4 + 5) = i by omega]
theorem oz_kdu_b {v : Nat × Nat × Nat × Nat} {R : Nat → Nat} {c i w : Nat} (hc : c ≤ 6) (hi : i < a 4) (hw : w < 11) : oz_bas (oz_kdu a v c R) i w = oz_bas a i w := by
  show oz_kdu a v c R (43 + 11 * i + w) = a (43 + 11 * i + w)
  exact oz_kdu_o hc (by omega) (by omega)
theorem oz_V_kdu (V : oz_V a) {v : Nat × Nat × Nat × Nat} {R : Nat → Nat} {c : Nat} (hn : a 4 < 5) (hc2 : 2 ≤ c) (hc : c ≤ 6) (h1 : 3 ≤ v.1 ∧ v.1 ≤ 24) (h2 : 1 ≤ v.2.1 ∧ v.2.1 ≤ 20) (h3 : 1 ≤ v.2.2.1 ∧ v.2.2.1 ≤ 6) (h4 : v.2.2.2 ≤ 99) (hR : ∀ i, i < c → 1 ≤ R i ∧ R i ≤ 4) : oz_V (oz_kdu a v c R) := by
  have hv := oz_v0 V
  have eq : ∀ lo hi, (98 ≤ lo ∨ (hi ≤ 43 ∧ 5 ≤ lo)) → oz_eqr lo hi a (oz_kdu a v c R) := fun lo hi hl i h1 h2 => oz_kdu_o hc (by omega) (by omega)
  refine oz_V_mk ?_ (oz_VB_cg V (oz_kdu_o hc (by omega) (by omega)) (eq 13 37 (by omega))) ?_ (oz_VH_cg V (oz_kdu_o hc (by omega) (by omega)) (eq 98 108 (by omega))) ?_ (oz_VS_cg V (eq 37 43 (by omega))) (oz_VL_cg V (eq 126 366 (by omega)))
  · unfold oz_V0 at hv ⊢
    rw [oz_kdu_4, oz_kdu_o hc (by omega) (by omega), oz_kdu_o hc (by omega) (by omega), oz_kdu_o hc (by omega) (by omega), oz_kdu_o hc (by omega) (by omega), oz_kdu_o hc (by omega) (by omega), oz_kdu_o hc (by omega) (by omega), oz_kdu_o hc (by omega) (by omega), oz_kdu_o hc (by omega) (by omega), oz_kdu_o hc (by omega) (by omega), oz_kdu_o hc (by omega) (by omega)]
    omega
  · intro k hk
    rw [oz_kdu_4] at hk
    unfold oz_V2
    by_cases ck : k < a 4
    · have v2 := oz_v2 V ck
      unfold oz_V2 at v2
      rw [oz_kdu_b hc ck (by omega), oz_kdu_b hc ck (by omega), oz_kdu_b hc ck (by omega), oz_kdu_b hc ck (by omega), oz_kdu_b hc ck (by omega)]
      refine ⟨v2, fun i hi => ?_⟩
      rw [oz_kdu_b hc ck (by omega)]
      exact oz_v2r V ck hi
    · obtain rfl : k = a 4 := by omega
      obtain ⟨e0, e1, e2, e3, e4, e5⟩ := oz_kdu_v (a := a) (v := v) (R := R) (c := c)
      rw [e0, e1, e2, e3, e4]
      refine ⟨by omega, fun i hi => ?_⟩
      rw [e5 i hi]
      exact hR i hi
  · intro o ho
    have e6 : oz_kdu a v c R 6 = a 6 := oz_kdu_o hc (by omega) (by omega)
    rw [e6] at ho
    have h6 : a 6 ≤ 6 := by unfold oz_V0 at hv; omega
    have v4 := oz_v4 V ho
    unfold oz_V4 at v4 ⊢
    have eo : ∀ w, w < 3 → oz_ord (oz_kdu a v c R) o w = oz_ord a o w := fun w hw => by
      show oz_kdu a v c R (108 + 3 * o + w) = a (108 + 3 * o + w)
      exact oz_kdu_o hc (by omega) (by omega)
    rw [eo 0 (by omega), eo 1 (by omega), eo 2 (by omega), oz_kdu_4]
    omega
theorem oz_C_kdu (V : oz_V a) (C : oz_C s b a) (hb : 10 ≤ b) {v : Nat × Nat × Nat × Nat} {R : Nat → Nat} {c : Nat} (hn : a 4 < 5) (hc : c ≤ 6) (K : oz_KN s u (b + 6) (a 4) v R c) : oz_C u b (oz_kdu a v c R) := by
  obtain ⟨q0, q1, q2, q3, q4, q5, q6, q8, q7, qf, qi, qr, _⟩ := K
  have eq : ∀ lo hi, (98 ≤ lo ∨ (hi ≤ 43 ∧ 5 ≤ lo)) → oz_eqr lo hi a (oz_kdu a v c R) := fun lo hi hl i h1 h2 => oz_kdu_o hc (by omega) (by omega)
  have o : ∀ p, 10 ≤ p → (p < b + 6 ∨ b + 15 ≤ p) → u.1 p = s.1 p := fun p h1 h2 => qf p (by omega) (by omega)
  refine ⟨oz_C0_cg C.1 (o b (by omega) (by omega)) (oz_kdu_o hc (by omega) (by omega)) (fun i h1 h2 => oz_kdu_o hc (by omega) (by omega)) (oz_kdu_o hc (by omega) (by omega)), oz_CB_cg V C.2.1 (fun p h1 h2 => o p (by omega) (by omega)) (oz_kdu_o hc (by omega) (by omega)) (eq 13 37 (by omega)), ⟨?_, fun k hk => ?_⟩, oz_CH_cg V C.2.2.2.1 (fun p h1 h2 => o p (by omega) (by omega)) (oz_kdu_o hc (by omega) (by omega)) (eq 98 108 (by omega)), oz_CO_cg V C.2.2.2.2.1 (fun p h1 h2 => o p (by omega) (by omega)) (oz_kdu_o hc (by omega) (by omega)) (eq 108 126 (by omega)), oz_CL_cg V C.2.2.2.2.2.1 (fun p h1 h2 => o p (by omega) (by omega)) (oz_kdu_o hc (by omega) (by omega)) (eq 126 366 (by omega)), oz_CS_cg C.2.2.2.2.2.2 (o (b + 23) (by omega) (by omega)) (eq 37 43 (by omega))⟩
  · rw [oz_kdu_4]; exact q0
  · rw [oz_kdu_4] at hk
    have cK := C.2.2.1
    by_cases ck : k < a 4
    · have v2 := oz_v2 V ck
      unfold oz_V2 at v2
      have n : k ≠ a 4 := by omega
      have eb : ∀ w, w < 11 → oz_bas (oz_kdu a v c R) k w = oz_bas a k w := fun w hw => oz_kdu_b hc ck hw
      have er : ∀ i, i < 6 → oz_R (oz_kdu a v c R) k i = oz_R a k i := fun i hi => eb (5 + i) (by omega)
      have ep : oz_per (oz_kdu a v c R) k = oz_per a k := by
        unfold oz_per
        rw [eb 4 (by omega)]
        exact oz_sum_congr (fun i hi => er i (by omega))
      have eo : oz_ob (oz_kdu a v c R) k = oz_ob a k := by
        unfold oz_ob
        rw [eb 4 (by omega)]
        exact oz_obn_cg _ (fun i hi => er i (by omega))
      rw [eb 0 (by omega), eb 1 (by omega), eb 2 (by omega), eb 3 (by omega), eb 4 (by omega), ep, eo, qi _ _ (by omega) (by omega) (by omega) n, qi _ _ (by omega) (by omega) (by omega) n, qi _ _ (by omega) (by omega) (by omega) n, qi _ _ (by omega) (by omega) (by omega) n, qi _ _ (by omega) (by omega) (by omega) n, qi _ _ (by omega) (by omega) (by omega) n, qi _ _ (by omega) (by omega) (by omega) n]
      refine ⟨k_1 cK ck, k_2 cK ck, k_3 cK ck, k_4 cK ck, k_5 cK ck, k_6 cK ck, k_8 cK ck, fun i hi => ?_⟩
      rw [qr _ (by omega), eb (5 + i) (by omega)]
      exact k_7 cK ck hi
    · obtain rfl : k = a 4 := by omega
      obtain ⟨e0, e1, e2, e3, e4, e5⟩ := oz_kdu_v (a := a) (v := v) (R := R) (c := c)
      have ep : oz_per (oz_kdu a v c R) (a 4) = oz_sum R c := by
        unfold oz_per
        rw [e4]
        exact oz_sum_congr (fun i hi => e5 i hi)
      have eo : oz_ob (oz_kdu a v c R) (a 4) = oz_obn R c := by
        unfold oz_ob
        rw [e4]
        exact oz_obn_cg _ (fun i hi => e5 i hi)
      rw [e0, e1, e2, e3, e4, ep, eo]
      exact ⟨q1, q2, q3, q4, q5, q6, q8, fun i hi => by rw [e5 i hi]; exact q7 i hi⟩
end
