/-! ===== a holt and a law are read ===== -/
section
variable {s t : lf_S} {a e : Nat → Nat} {L : List (Nat × Nat × List Nat)} {n o : Nat} {E : Nat → Nat → Nat} {T : Nat → Nat} {len : Nat}
theorem oz_hoR_e (e : Nat) (he : oz_hoR T len a = Sum.inl e) : oz_H01 e = some (nI (e + 1)) ∧ 1 ≤ e + 1 ∧ e + 1 < 10 := by
  unfold oz_hoR at he
  cases h : (oz_hrA T len a).1 with
  | inl q =>
    rw [h] at he
    cases he
    exact ⟨rfl, by omega, by omega⟩
  | inr q =>
    rw [h] at he
    have he' : (if a 0 < 12 then (Sum.inr (nI (a 0 + 1)) : Nat ⊕ Int32) else Sum.inl 1) = Sum.inl e := he
    split at he'
    · cases he'
    · cases he'
      exact ⟨rfl, by omega, by omega⟩
theorem q_holt (I : oz_I s a L n o E T len) : oz_An oz_H01 (f_Main_holt s) f_Mod_holt := by
  obtain ⟨i1, i2, i3, i4, i5, i6, i7, i8, i9, i10⟩ := I
  obtain ⟨t1, t2, t3, t4⟩ := i5
  obtain ⟨t, k1, k2, k3, k4, k5, k6, k7, k8⟩ := c_holt i2 i3 t1 t3 (fun i hi => ⟨(t4 i hi).1, (t4 i hi).2.1⟩)
  refine oz_An_of (fun e => e + 1) k1 oz_hoR_e (fun x hx => ?_)
  have xp : ∀ p, ¬ (p = 0 ∨ p = 1 ∨ (10 ≤ p ∧ p < 34) ∨ (40 ≤ p ∧ p < 64)) → x.1 p = s.1 p := fun p h => by rw [hx, k7.1 p (by omega)]
  have r1 : x = oz_md x a := oz_row i1 (xp 390 (by omega))
  obtain ⟨u, l1, l2, l3, l4, l5, l6, l7⟩ := m_holt (s := x) i2 (by rw [xp 389 (by omega)]; exact t2) t3 (fun i hi => ⟨(t4 i hi).1, by rw [xp 394 (by omega)]; exact (t4 i hi).2.2⟩)
  rw [← r1] at l1
  have hp : ∀ p, ¬ (p = 0 ∨ p = 1 ∨ (10 ≤ p ∧ p < 34) ∨ (40 ≤ p ∧ p < 64) ∨ p = 389 ∨ p = 390 ∨ p = 392) → (oz_md u (oz_hoA T len a)).1 p = s.1 p := fun p h => by rw [oz_md_o (by omega), l7.1 p (by omega), xp p (by omega)]
  have h0 : ∀ j, j ≠ 10 → (oz_md u (oz_hoA T len a)).1 0 j = s.1 0 j := fun j h => by rw [oz_md_o (by omega), l7.1 0 (by omega), hx]; exact k8 j h
  have hk : ∀ {j}, j = 1 ∨ j = 2 ∨ 366 ≤ j → oz_hoA T len a j = a j := fun hj => oz_hoA_k i2 hj
  have h3 : (oz_md u (oz_hoA T len a)).1 389 3 = s.1 389 3 := by rw [oz_md_o (by omega), l6, xp 389 (by omega)]
  refine ⟨oz_md u (oz_hoA T len a), l1, by rw [oz_md_o (by omega)]; exact l2, l7.2, oz_hoA T len a, L, if (oz_hoR T len a).isRight = true then 0 else n, o, E, T, 0, oz_mdd, k3, oz_C_fr k3 k2 (fun p p1 p2 => by rw [oz_md_o (by omega), l7.1 p (by omega), hx]), oz_LW_cg i4 (fun p p1 p2 => hp p (by omega)) (hk (by omega)) (hk (by omega)) (fun j hj => hk (by omega)), ⟨by rw [oz_md_o (by omega), l7.1 1 (by omega), hx]; exact k4, by rw [oz_md_o (by omega)]; exact l3, by omega, fun i hi => absurd hi (by omega)⟩, ?_, ?_, ?_, fun i hi => ?_, oz_IM_p i10 (fun p h => hp p (by omega)) (h0 11 (by omega)) h3⟩
  · rw [oz_md_o (by omega), oz_md_o (by omega), l7.1 1 (by omega), hx, k5, l4]
  · by_cases c : (oz_hoR T len a).isRight = true
    · rw [if_pos c] at k6 ⊢
      exact ⟨by omega, i7.2.1, by rw [oz_md_o (by omega), l7.1 0 (by omega), hx]; exact k6, by rw [h0 9 (by omega)]; exact i7.2.2.2.1, fun i hi => absurd hi (by omega)⟩
    · rw [if_neg c] at k6 ⊢
      exact oz_PC_fr i7 (fun i hi => (i9 i hi).1) (by rw [oz_md_o (by omega), l7.1 0 (by omega), hx]; exact k6) (h0 9 (by omega)) (fun p p1 p2 => hp p (by omega))
  · by_cases c : (oz_hoR T len a).isRight = true
    · rw [if_pos c] at l5 ⊢
      exact ⟨by omega, by rw [oz_md_o (by omega)]; exact l5, fun i j hi _ => absurd hi (by omega)⟩
    · rw [if_neg c] at l5 ⊢
      exact oz_PM_fr i8 (by rw [oz_md_o (by omega), l5, xp 389 (by omega)]) (hp 393 (by omega))
  · have h := i9 i (by split at hi <;> omega)
    exact ⟨h.1, by rw [hk (by omega)]; exact h.2.1, by rw [hk (by omega)]; exact h.2.2⟩
theorem oz_lwR_e (e : Nat) (he : oz_lwR T len = Sum.inl e) : oz_H0 e = some (nI (e + 1)) ∧ 1 ≤ e + 1 ∧ e + 1 < 10 := by
  unfold oz_lwR at he
  cases h : (oz_lrA T len).2 with
  | inl q =>
    rw [h] at he
    cases he
    exact ⟨rfl, by omega, by omega⟩
  | inr q =>
    rw [h] at he
    cases he
theorem q_law (I' : oz_I s a L n o E T len) : oz_An oz_H0 (f_Main_law s) f_Mod_law := by
  obtain ⟨T0, hT0⟩ : ∃ T0 : Nat → Nat, T0 = fun i => if i < len then T i else 0 := ⟨_, rfl⟩
  have I : oz_I s a L n o E T0 len := by
    obtain ⟨i1, i2, i3, i4, ⟨t1, t2, t3, t4⟩, i6⟩ := I'
    refine ⟨i1, i2, i3, i4, ⟨t1, t2, t3, fun i hi => ?_⟩, i6⟩
    have e : T0 i = T i := by rw [hT0]; exact if_pos hi
    rw [e]
    exact t4 i hi
  have hz : ∀ i, len ≤ i → T0 i = 0 := fun i hi => by rw [hT0]; exact if_neg (by omega)
  clear hT0 I'
  obtain ⟨i1, i2, i3, i4, i5, i6, i7, i8, i9, i10⟩ := I
  obtain ⟨t1, t2, t3, t4⟩ := i5
  obtain ⟨t, k1, k2, k3, k4, k5, k6, k7⟩ := c_law (s := s) t1 t3 (fun i hi => ⟨(t4 i hi).1, (t4 i hi).2.1⟩)
  refine oz_An_of (fun e => e + 1) k1 oz_lwR_e (fun x hx => ?_)
  have xp : ∀ p, ¬ (p = 0 ∨ p = 1 ∨ (34 ≤ p ∧ p < 40) ∨ (64 ≤ p ∧ p < 70)) → x.1 p = s.1 p := fun p h => by rw [hx, k6.1 p (by omega)]
  have r1 : x = oz_md x a := oz_row i1 (xp 390 (by omega))
  obtain ⟨u, l1, l2, l3, l4, l5, l6, l7⟩ := m_law (s := x) (a := a) (by rw [xp 389 (by omega)]; exact t2) t3 (fun i hi => ⟨(t4 i hi).1, by rw [xp 394 (by omega)]; exact (t4 i hi).2.2⟩)
  rw [← r1] at l1
  obtain ⟨a', ha'⟩ : ∃ a', a' = oz_lwA T0 len a := ⟨_, rfl⟩
  rw [← ha'] at l1
  have hp : ∀ p, ¬ (p = 0 ∨ p = 1 ∨ (34 ≤ p ∧ p < 40) ∨ (64 ≤ p ∧ p < 70) ∨ p = 389 ∨ p = 390) → (oz_md u a').1 p = s.1 p := fun p h => by rw [oz_md_o (by omega), l7.1 p (by omega), xp p (by omega)]
  have h0 : ∀ j, j ≠ 10 → (oz_md u a').1 0 j = s.1 0 j := fun j h => by rw [oz_md_o (by omega), l7.1 0 (by omega), hx]; exact k7 j h
  have h3 : (oz_md u a').1 389 3 = s.1 389 3 := by rw [oz_md_o (by omega), l6, xp 389 (by omega)]
  have ft : (oz_md u a').1 1 2 = (oz_md u a').1 389 12 := by rw [oz_md_o (by omega), oz_md_o (by omega), l7.1 1 (by omega), hx, k3, l4]
  have tx : oz_T (oz_md u a') T0 0 := ⟨by rw [oz_md_o (by omega), l7.1 1 (by omega), hx]; exact k2, by rw [oz_md_o (by omega)]; exact l3, by omega, fun i hi => absurd hi (by omega)⟩
  have im : oz_IM (oz_md u a') := oz_IM_p i10 (fun p h => hp p (by omega)) (h0 11 (by omega)) h3
  refine ⟨oz_md u a', l1, by rw [oz_md_o (by omega)]; exact l2, l7.2, ?_⟩
  cases hr : (oz_lrA T0 len).2 with
  | inl q =>
    have hl : (oz_lrA T0 len).2.isRight = false := by rw [hr]; rfl
    have ea : a' = a := by rw [ha']; unfold oz_lwA; rw [hr]
    obtain ⟨g1, g2⟩ := k5 hl
    rw [if_neg (by rw [hl]; exact Bool.noConfusion)] at l5
    rw [ea] at hp h0 h3 ft tx im ⊢
    exact ⟨a, L, n, o, E, T0, 0, oz_mdd, i2, oz_C_fr i2 i3 (fun p p1 p2 => hp p (by omega)), oz_LW_cg i4 (fun p p1 p2 => by rw [oz_md_o (by omega), l7.1 p (by omega), hx]; exact g1 p (by omega) (by omega)) rfl rfl (fun _ _ => rfl), tx, ft, oz_PC_fr i7 (fun i hi => (i9 i hi).1) (by rw [oz_md_o (by omega), l7.1 0 (by omega), hx]; exact g2) (h0 9 (by omega)) (fun p p1 p2 => hp p (by omega)), oz_PM_fr i8 (by rw [oz_md_o (by omega), l5, xp 389 (by omega)]) (hp 393 (by omega)), i9, im⟩
  | inr q =>
    have hl : (oz_lrA T0 len).2.isRight = true := by rw [hr]; rfl
    have ea : a' = oz_lwS T0 len len a := by rw [ha']; unfold oz_lwA; rw [hr]
    obtain ⟨g1, g2⟩ := k4 hl
    rw [if_pos hl] at l5
    have lo : ∀ j, j < 366 → j ≠ 1 → j ≠ 2 → a' j = a j := fun j h1 h2 h3 => by
      rw [ea]
      unfold oz_lwS
      rw [if_neg (by omega), oz_up_n h3, oz_up_n h2]
    have W := oz_LW_law (s := t) (a := a) hz t3 (fun i hi => (t4 i hi).1) hl g1
    rw [← ha'] at W
    exact ⟨a', (oz_lrA T0 len).1, 0, o, E, T0, 0, oz_mdd, oz_V_eq i2 lo, oz_C_eq i2 (oz_C_fr i2 i3 (fun p p1 p2 => hp p (by omega))) lo, oz_LW_cg W (fun p p1 p2 => by rw [oz_md_o (by omega), l7.1 p (by omega), hx]) rfl rfl (fun _ _ => rfl), tx, ft, ⟨by omega, i7.2.1, by rw [oz_md_o (by omega), l7.1 0 (by omega), hx]; exact g2, by rw [h0 9 (by omega)]; exact i7.2.2.2.1, fun i hi => absurd hi (by omega)⟩, ⟨by omega, by rw [oz_md_o (by omega)]; exact l5, fun i j hi _ => absurd hi (by omega)⟩, fun i hi => absurd hi (by omega), im⟩
end
