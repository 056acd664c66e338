/-! ===== the cases with their own shape, 3 ===== -/
section
variable {s t : lf_S} {a e : Nat → Nat} {L : List (Nat × Nat × List Nat)} {n o : Nat} {E : Nat → Nat → Nat} {T : Nat → Nat} {len : Nat}
theorem oz_LW_cg4 {q : Nat} (h : oz_LW s q a L) (f : ∀ p, q ≤ p → p < q + 5 → t.1 p = s.1 p) (h1 : e 1 = a 1) (h2 : e 2 = a 2) (h3 : ∀ j, 366 ≤ j → j < 766 → e j = a j) : oz_LW t q e L := by
  rcases h with ⟨g1, g2, g3⟩ | ⟨g1, g2, g3, g4, g5, g6⟩
  · exact Or.inl ⟨h1.trans g1, g2, by rw [f q (by omega) (by omega), h1]; exact g3⟩
  · have eT : oz_ttx e = oz_ttx a := by
      funext i
      unfold oz_ttx
      rw [h2]
      by_cases c : i < a 2
      · rw [if_pos c, if_pos c, h3 (366 + i) (by omega) (by omega)]
      · rw [if_neg c, if_neg c]
    refine Or.inr ⟨h1.trans g1, by rw [h2]; exact g2, fun i hi => ?_, by rw [eT, h2]; exact g4, by rw [eT, h2]; exact g5, oz_CL2_fr g6 f⟩
    rw [h2] at hi
    rw [h3 _ (by omega) (by omega)]
    exact g3 i hi
theorem oz_LW_LE {q r : Nat} (h : oz_LW s q a L) (k : oz_LE s q t r) : oz_LW t r a L := by
  obtain ⟨k1, k2, k3, k4⟩ := k
  rcases h with ⟨g1, g2, g3⟩ | ⟨g1, g2, g3, g4, g5, g6⟩
  · exact Or.inl ⟨g1, g2, k1.trans g3⟩
  · obtain ⟨c1, c2, c3, c4⟩ := g6
    refine Or.inr ⟨g1, g2, g3, g4, g5, k1.trans c1, c2, ⟨k2.trans c3.1, fun i hi => (k4 i (by omega)).trans (c3.2 i hi)⟩, fun i hi => ?_⟩
    have h4 := c4 i hi
    have h3 := k3 i (by omega)
    exact ⟨h3.1.trans h4.1, h3.2.1.trans h4.2.1, h3.2.2.trans h4.2.2⟩
theorem k_end (I : oz_I s a L n o E T len) (x : Int32) : ∃ t, f_case_1 x s = some t ∧ oz_Inv t := by
  have hT := I.2.2.2.2.1
  obtain ⟨t, k1, k2, k3, k4⟩ := c_end hT.1 hT.2.2.1 x
  obtain ⟨u, l1, l2, l3, l4, l5⟩ := m_end (s := t) (len := len) (by rw [k3.1 389 (by omega)]; exact hT.2.1) hT.2.2.1 x
  refine ⟨u, ?_, oz_IT (T' := T) (len' := if 0 ≤ x.toInt ∧ x.toInt ≤ len then x.toInt.toNat else len) I ⟨by rw [l4.1 1 (by omega)]; exact k2, l2, ?_, fun i hi => ?_⟩ (fun p hp => by rw [l4.1 p (by omega), k3.1 p (by omega)]) (by rw [l4.1 1 (by omega)]; exact k4 2 (by omega)) (fun j hj => by rw [l5 j (by omega) (by omega), k3.1 389 (by omega)])⟩
  · unfold f_case_1
    rw [k1, Option.bind_some, l1, Option.bind_some]
    exact if_pos rfl
  · have := hT.2.2.1
    split <;> omega
  · have h := hT.2.2.2 i (by split at hi <;> omega)
    exact ⟨h.1, by rw [l4.1 2 (by omega), k3.1 2 (by omega)]; exact h.2.1, by rw [l4.1 394 (by omega), k3.1 394 (by omega)]; exact h.2.2⟩
theorem k_feed (I : oz_I s a L n o E T len) (x1 x2 x3 x4 x5 : Int32) : ∃ t, f_case_0 x1 x2 x3 x4 x5 s = some t ∧ oz_Inv t := by
  have hT := I.2.2.2.2.1
  obtain ⟨t, k1, k2, k3, k4, k5⟩ := c_feed hT.1 hT.2.2.1 (fun i hi => (hT.2.2.2 i hi).2.1) x1 x2 x3 x4 x5
  obtain ⟨u, l1, l2, l3, l4, l5, l6⟩ := m_feed (s := t) (len := len) (T := T) (by rw [k4.1 389 (by omega)]; exact hT.2.1) hT.2.2.1 (fun i hi => by rw [k4.1 394 (by omega)]; exact (hT.2.2.2 i hi).2.2) x1 x2 x3 x4 x5
  refine ⟨u, ?_, oz_IT (T' := oz_fdT T len (oz_ag x1 x2 x3 x4 x5)) (len' := if len + 20 ≤ 400 then len + 20 else len) I ⟨by rw [l5.1 1 (by omega)]; exact k2, l2, ?_, fun i hi => ⟨?_, by rw [l5.1 2 (by omega)]; exact k3 i hi, l4 i hi⟩⟩ (fun p hp => by rw [l5.1 p (by omega), k4.1 p (by omega)]) (by rw [l5.1 1 (by omega)]; exact k5 2 (by omega)) (fun j hj => by rw [l6 j (by omega) (by omega), k4.1 389 (by omega)])⟩
  · unfold f_case_0
    rw [k1, Option.bind_some, l1, Option.bind_some]
    exact if_pos rfl
  · have := hT.2.2.1
    split <;> omega
  · unfold oz_fdT
    split
    · rename_i c
      exact (hT.2.2.2 i c).1
    · exact oz_by_le
theorem k_seed (I : oz_I s a L n o E T len) (x : Int32) : ∃ t, f_case_48 x s = some t ∧ oz_Inv t := by
  obtain ⟨v, hv, rfl⟩ : ∃ v, v < 4294967296 ∧ x = nI v := ⟨_, x.toBitVec.isLt, oz_all x⟩
  obtain ⟨i1, i2, i3, i4, i5, i6, i7, i8, i9, i10⟩ := I
  obtain ⟨t1, t2, t3, t4⟩ := i5
  have C1 := oz_C_num i2 i3 (k := 10) (i := 12) (v := v) (by omega)
  have V1 : oz_V (oz_up a 12 v) := oz_V_up i2 (by omega)
  have r1 : lf_w s 10 10 (nI v) = oz_md (lf_w s 10 10 (nI v)) a := oz_row i1 (oz_w_o (by omega))
  refine ⟨oz_md (lf_w (lf_w s 10 10 (nI v)) 389 0 (nI 0)) (oz_up a 12 v), ?_, ?_⟩
  · unfold f_case_48
    rw [c_seed i2 i3, Option.bind_some]
    dsimp only
    rw [r1, m_seed, Option.bind_some, ← r1]
    exact if_pos rfl
  · have hp : ∀ p, p ≠ 10 → p ≠ 389 → p ≠ 390 → (oz_md (lf_w (lf_w s 10 10 (nI v)) 389 0 (nI 0)) (oz_up a 12 v)).1 p = s.1 p := fun p h1 h2 h3 => by rw [oz_md_o h3, oz_w_o h2, oz_w_o h1]
    have hj : ∀ j, j ≠ 0 → (oz_md (lf_w (lf_w s 10 10 (nI v)) 389 0 (nI 0)) (oz_up a 12 v)).1 389 j = s.1 389 j := fun j h => by rw [oz_md_o (by omega), oz_w_n h, oz_w_o (by omega)]
    refine ⟨oz_up a 12 v, L, n, o, E, T, len, oz_mdd, V1, oz_C_fr V1 C1 (fun p p1 p2 => by rw [oz_md_o (by omega), oz_w_o (by omega)]), oz_LW_cg i4 (fun p p1 p2 => hp p (by omega) (by omega) (by omega)) (oz_up_n (by omega)) (oz_up_n (by omega)) (fun j hj => oz_up_n (by omega)), ⟨by rw [hp 1 (by omega) (by omega) (by omega)]; exact t1, by rw [hj 8 (by omega)]; exact t2, t3, fun i hi => by rw [hp 2 (by omega) (by omega) (by omega), hp 394 (by omega) (by omega) (by omega)]; exact t4 i hi⟩, by rw [hp 1 (by omega) (by omega) (by omega), hj 12 (by omega)]; exact i6, oz_PC_fr i7 (fun i hi => (i9 i hi).1) (by rw [hp 0 (by omega) (by omega) (by omega)]) (by rw [hp 0 (by omega) (by omega) (by omega)]) (fun p p1 p2 => hp p (by omega) (by omega) (by omega)), oz_PM_fr i8 (hj 6 (by omega)) (hp 393 (by omega) (by omega) (by omega)), fun i hi => ⟨(i9 i hi).1, by rw [oz_up_n (by omega)]; exact (i9 i hi).2.1, by rw [oz_up_n (by omega)]; exact (i9 i hi).2.2⟩, ?_⟩
    rcases i10 with ⟨m1, m2⟩ | ⟨m1, m2, e, Le, m3, m4, m5, m6⟩
    · exact Or.inl ⟨by rw [hp 0 (by omega) (by omega) (by omega)]; exact m1, (hj 3 (by omega)).trans m2⟩
    · exact Or.inr ⟨by rw [hp 0 (by omega) (by omega) (by omega)]; exact m1, (hj 3 (by omega)).trans m2, e, Le, m3, oz_C_fr m3 m4 (fun p p1 p2 => hp p (by omega) (by omega) (by omega)), oz_LW_cg m5 (fun p p1 p2 => hp p (by omega) (by omega) (by omega)) rfl rfl (fun _ _ => rfl), fun j hj => by rw [hp 391 (by omega) (by omega) (by omega)]; exact m6 j hj⟩
/-- the image stays when its pages do -/
theorem oz_IM_p (h : oz_IM s) (hp : ∀ p, (70 ≤ p ∧ p < 99) ∨ p = 391 → t.1 p = s.1 p) (h11 : t.1 0 11 = s.1 0 11) (h3 : t.1 389 3 = s.1 389 3) : oz_IM t := by
  rcases h with ⟨m1, m2⟩ | ⟨m1, m2, e, Le, m3, m4, m5, m6⟩
  · exact Or.inl ⟨h11.trans m1, h3.trans m2⟩
  · exact Or.inr ⟨h11.trans m1, h3.trans m2, e, Le, m3, oz_C_fr m3 m4 (fun p p1 p2 => hp p (by omega)), oz_LW_cg m5 (fun p p1 p2 => hp p (by omega)) rfl rfl (fun _ _ => rfl), fun j hj => by rw [hp 391 (by omega)]; exact m6 j hj⟩
theorem k_image (I : oz_I s a L n o E T len) : ∃ t, f_case_50 s = some t ∧ oz_Inv t := by
  obtain ⟨i1, i2, i3, i4, i5, i6, i7, i8, i9, i10⟩ := I
  obtain ⟨t1, t2, t3, t4⟩ := i5
  obtain ⟨t, k1, k2, k3, k4, k5, k6⟩ := c_image i2 i3
  have r1 : t = oz_md t a := oz_row i1 (k5.1 390 (by omega))
  obtain ⟨u, l1, l2, l3, l4, l5, l6⟩ := m_image (s := t) (a := a)
  have hp : ∀ p, ¬ (p = 0 ∨ (70 ≤ p ∧ p < 100) ∨ p = 389 ∨ p = 390 ∨ p = 391) → (oz_md u a).1 p = s.1 p := fun p h => by rw [oz_md_o (by omega), l5.1 p (by omega), k5.1 p (by omega)]
  have h0 : ∀ j, j ≠ 11 → (oz_md u a).1 0 j = s.1 0 j := fun j h => by rw [oz_md_o (by omega), l5.1 0 (by omega)]; exact k6 j h
  have hj : ∀ j, j ≠ 0 → j ≠ 3 → (oz_md u a).1 389 j = s.1 389 j := fun j h h' => by rw [oz_md_o (by omega), l6 j h h', k5.1 389 (by omega)]
  refine ⟨oz_md u a, ?_, a, L, n, o, E, T, len, oz_mdd, i2, oz_C_fr i2 i3 (fun p p1 p2 => hp p (by omega)), oz_LW_cg i4 (fun p p1 p2 => hp p (by omega)) rfl rfl (fun _ _ => rfl), ⟨by rw [hp 1 (by omega)]; exact t1, by rw [hj 8 (by omega) (by omega)]; exact t2, t3, fun i hi => by rw [hp 2 (by omega), hp 394 (by omega)]; exact t4 i hi⟩, by rw [hp 1 (by omega), hj 12 (by omega) (by omega)]; exact i6, oz_PC_fr i7 (fun i hi => (i9 i hi).1) (h0 10 (by omega)) (h0 9 (by omega)) (fun p p1 p2 => hp p (by omega)), oz_PM_fr i8 (hj 6 (by omega) (by omega)) (hp 393 (by omega)), i9, Or.inr ⟨?_, ?_, a, L, i2, ?_, ?_, fun j hj => ?_⟩⟩
  · unfold f_case_50
    rw [k1, Option.bind_some, r1, l1, Option.bind_some]
  · rw [oz_md_o (by omega), l5.1 0 (by omega)]; exact k4
  · rw [oz_md_o (by omega)]; exact l3
  · exact oz_C_fr i2 k2 (fun p p1 p2 => by rw [oz_md_o (by omega), l5.1 p (by omega)])
  · exact oz_LW_cg (oz_LW_LE i4 k3) (fun p p1 p2 => by rw [oz_md_o (by omega), l5.1 p (by omega)]) rfl rfl (fun _ _ => rfl)
  · rw [oz_md_o (by omega)]; exact l2 j hj
theorem k_back (I : oz_I s a L n o E T len) : ∃ t, f_case_51 s = some t ∧ oz_Inv t := by
  have I' := I
  obtain ⟨i1, i2, i3, i4, i5, i6, i7, i8, i9, i10⟩ := I
  obtain ⟨t1, t2, t3, t4⟩ := i5
  rcases i10 with ⟨m1, m2⟩ | ⟨m1, m2, e, Le, m3, m4, m5, m6⟩
  · refine ⟨oz_md (lf_w s 389 0 (nI 0)) a, ?_, oz_Inv_kp I' (oz_kp_md i1 (oz_fr_w (by omega)) (fun j hj => oz_w_n (by omega)))⟩
    unfold f_case_51
    rw [c_back0 m1, Option.bind_some]
    dsimp only
    have hb := m_back0 (a := a) m2
    rw [← i1] at hb
    rw [hb, Option.bind_some]
    exact if_pos rfl
  · obtain ⟨t, k1, k2, k3, k4, k5, k6⟩ := c_back1 m3 m4 m1
    have r1 : t = oz_md t a := oz_row i1 (k5.1 390 (by omega))
    obtain ⟨u, l1, l2, l3, l4, l5⟩ := m_back1 (s := t) (a := a) (e := e) (by rw [k5.1 389 (by omega)]; exact m2) (fun j hj => by rw [k5.1 391 (by omega)]; exact m6 j hj)
    have eb : ∀ j, j < 766 → oz_bk e a j = e j := fun j hj => if_pos hj
    have hp : ∀ p, ¬ (p = 0 ∨ (10 ≤ p ∧ p < 40) ∨ p = 389 ∨ p = 390) → (oz_md u (oz_bk e a)).1 p = s.1 p := fun p h => by rw [oz_md_o (by omega), l4.1 p (by omega), k5.1 p (by omega)]
    have h0 : ∀ j, j ≠ 10 → (oz_md u (oz_bk e a)).1 0 j = s.1 0 j := fun j h => by rw [oz_md_o (by omega), l4.1 0 (by omega)]; exact k6 j h
    have hj : ∀ j, j ≠ 0 → j ≠ 6 → (oz_md u (oz_bk e a)).1 389 j = s.1 389 j := fun j h h' => by rw [oz_md_o (by omega), l5 j h h', k5.1 389 (by omega)]
    refine ⟨oz_md u (oz_bk e a), ?_, oz_bk e a, Le, 0, o, E, T, len, oz_mdd, oz_V_eq m3 (fun j h1 _ _ => eb j (by omega)), oz_C_eq m3 (oz_C_fr m3 k2 (fun p p1 p2 => by rw [oz_md_o (by omega), l4.1 p (by omega)])) (fun j h1 _ _ => eb j (by omega)), oz_LW_cg4 (oz_LW_LE m5 k3) (fun p p1 p2 => by rw [oz_md_o (by omega), l4.1 p (by omega)]) (eb 1 (by omega)) (eb 2 (by omega)) (fun j h1 h2 => eb j h2), ⟨by rw [hp 1 (by omega)]; exact t1, by rw [hj 8 (by omega) (by omega)]; exact t2, t3, fun i hi => by rw [hp 2 (by omega), hp 394 (by omega)]; exact t4 i hi⟩, by rw [hp 1 (by omega), hj 12 (by omega) (by omega)]; exact i6, ⟨by omega, i7.2.1, by rw [oz_md_o (by omega), l4.1 0 (by omega)]; exact k4, by rw [h0 9 (by omega)]; exact i7.2.2.2.1, fun i hi => absurd hi (by omega)⟩, ⟨by omega, by rw [oz_md_o (by omega)]; exact l3, fun i j hi _ => absurd hi (by omega)⟩, fun i hi => absurd hi (by omega), oz_IM_p (s := s) (Or.inr ⟨m1, m2, e, Le, m3, m4, m5, m6⟩) (fun p h => hp p (by omega)) (h0 11 (by omega)) (hj 3 (by omega) (by omega))⟩
    unfold f_case_51
    rw [k1, Option.bind_some]
    dsimp only
    rw [r1, l1, Option.bind_some]
    exact if_pos rfl
theorem k_undo (I : oz_I s a L n o E T len) : ∃ t, f_case_49 s = some t ∧ oz_Inv t := by
  obtain ⟨i1, i2, i3, i4, i5, i6, i7, i8, i9, i10⟩ := I
  obtain ⟨t1, t2, t3, t4⟩ := i5
  obtain ⟨t, k1, k2, k3, k4, k5, k6⟩ := c_undo (fun i hi => (i9 i hi).1) i7 (fun i hi => by have h := oz_v0 (i9 i hi).1; unfold oz_V0 at h; omega)
  have r1 : t = oz_md t a := oz_row i1 (k5.1 390 (by omega))
  obtain ⟨u, l1, l2, l3, l4, l5⟩ := m_undo (s := t) (a := a) (oz_PM_fr i8 (by rw [k5.1 389 (by omega)]) (k5.1 393 (by omega)))
  have ⟨a', ha'⟩ : ∃ a', a' = (if 1 ≤ n then oz_un E n a else a) := ⟨_, rfl⟩
  rw [← ha'] at l1
  have hp : ∀ p, ¬ (p = 0 ∨ (10 ≤ p ∧ p < 34) ∨ p = 389 ∨ p = 390) → (oz_md u a').1 p = s.1 p := fun p h => by rw [oz_md_o (by omega), l4.1 p (by omega), k5.1 p (by omega)]
  have h0 : ∀ j, j ≠ 10 → (oz_md u a').1 0 j = s.1 0 j := fun j h => by rw [oz_md_o (by omega), l4.1 0 (by omega)]; exact k6 j h
  have hj : ∀ j, j ≠ 0 → j ≠ 6 → (oz_md u a').1 389 j = s.1 389 j := fun j h h' => by rw [oz_md_o (by omega), l5 j h' h, k5.1 389 (by omega)]
  have key : oz_V a' ∧ oz_C t 10 a' ∧ a' 1 = a 1 ∧ a' 2 = a 2 ∧ ∀ j, 366 ≤ j → a' j = a j := by
    by_cases c : 1 ≤ n
    · rw [if_pos c] at ha'
      have hE := i9 (n - 1) (by omega)
      have lo : ∀ j, j < 366 → a' j = E (n - 1) j := fun j h => by rw [ha']; exact if_pos h
      exact ⟨oz_V_eq hE.1 (fun j h1 _ _ => lo j h1), oz_C_eq hE.1 (k3 c) (fun j h1 _ _ => lo j h1), by rw [lo 1 (by omega)]; exact hE.2.1, by rw [lo 2 (by omega)]; exact hE.2.2, fun j h => by rw [ha']; exact if_neg (by omega)⟩
    · rw [if_neg c] at ha'
      rw [ha', k4 (by omega)]
      exact ⟨i2, i3, rfl, rfl, fun _ _ => rfl⟩
  obtain ⟨q1, q2, q3, q4, q5⟩ := key
  refine ⟨oz_md u a', ?_, a', L, n - 1, o, E, T, len, oz_mdd, q1, oz_C_fr q1 q2 (fun p p1 p2 => by rw [oz_md_o (by omega), l4.1 p (by omega)]), oz_LW_cg i4 (fun p p1 p2 => hp p (by omega)) q3 q4 q5, ⟨by rw [hp 1 (by omega)]; exact t1, by rw [hj 8 (by omega) (by omega)]; exact t2, t3, fun i hi => by rw [hp 2 (by omega), hp 394 (by omega)]; exact t4 i hi⟩, by rw [hp 1 (by omega), hj 12 (by omega) (by omega)]; exact i6, oz_PC_fr k2 (fun i hi => (i9 i (by omega)).1) (by rw [oz_md_o (by omega), l4.1 0 (by omega)]) (by rw [oz_md_o (by omega), l4.1 0 (by omega)]) (fun p p1 p2 => by rw [oz_md_o (by omega), l4.1 p (by omega)]), oz_PM_fr l2 (by rw [oz_md_o (by omega)]) (oz_md_o (by omega)), fun i hi => ⟨(i9 i (by omega)).1, (i9 i (by omega)).2.1.trans q3.symm, (i9 i (by omega)).2.2.trans q4.symm⟩, oz_IM_p i10 (fun p h => hp p (by omega)) (h0 11 (by omega)) (hj 3 (by omega) (by omega))⟩
  unfold f_case_49
  rw [k1, Option.bind_some]
  dsimp only
  rw [r1, l1, Option.bind_some]
  exact if_pos rfl
end
