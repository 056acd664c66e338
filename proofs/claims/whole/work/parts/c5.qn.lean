/-! ===== the earlier answers, as answered calls ===== -/
section
variable {s : lf_S} {a : Nat → Nat} {L : List (Nat × Nat × List Nat)} {n o : Nat} {E : Nat → Nat → Nat} {T : Nat → Nat} {len : Nat}
theorem oz_qE {H : Nat → Option Int32} {F : Option ((Nat ⊕ Int32) × lf_S)} {G : lf_S → Option (Int32 × lf_S)} {R : Nat ⊕ Int32} {s1 : lf_S} {e0 : Nat} (I : oz_I s a L n o E T len) (hH : H e0 = some (nI 1)) (hF : F = some (R, s1)) (f : oz_fr (fun p => (3 ≤ p ∧ p < 10) ∨ p = 39 ∨ (40 ≤ p ∧ p < 70) ∨ p = 392 ∨ 395 ≤ p) s s1) (hR : ∀ e, R = Sum.inl e → e = e0) (hG : ∀ x : lf_S, ∃ t, G (oz_md x a) = some (R.elim (fun _ => nI 0) id, oz_md t a) ∧ t.1 389 0 = R.elim (fun _ => nI 1) (fun _ => nI 0) ∧ oz_fr (fun p => p = 389 ∨ (3 ≤ p ∧ p < 10) ∨ p = 39 ∨ (40 ≤ p ∧ p < 70) ∨ p = 392 ∨ 395 ≤ p) x t ∧ ∀ j, j ≠ 0 → t.1 389 j = x.1 389 j) : oz_An H F G :=
  oz_qI I (fun _ => 1) hF (oz_kp_fr f) (fun e he => by rw [hR e he]; exact ⟨hH, by omega, by omega⟩) (fun x _ _ => by
    obtain ⟨t, g1, g2, g3, g4⟩ := hG x
    exact ⟨t, g1, g2, g3, fun j hj => g4 j (by omega)⟩)
theorem q_run (I : oz_I s a L n o E T len) (x y : Int32) : oz_An oz_H3 (f_Main_run x y s) (f_Mod_run x y) := oz_qE I rfl (c_run I.2.1 I.2.2.1 x y) oz_fr_rf (fun e he => by unfold oz_rnR at he; (repeat' split at he) <;> cases he <;> rfl) (fun z => ⟨_, m_run I.2.1 x y, oz_w_s, oz_fr_w (by omega), fun j hj => oz_w_n hj⟩)
theorem q_store (I : oz_I s a L n o E T len) (x : Int32) : oz_An oz_H3 (f_Main_store x s) (f_Mod_store x) := oz_qE I rfl (c_store I.2.2.1 x) oz_fr_rf (fun e he => by unfold oz_stR at he; (repeat' split at he) <;> cases he <;> rfl) (fun z => ⟨_, m_store x, oz_w_s, oz_fr_w (by omega), fun j hj => oz_w_n hj⟩)
theorem q_hand (I : oz_I s a L n o E T len) (x y : Int32) : oz_An oz_H3 (f_Main_hand x y s) (f_Mod_hand x y) := oz_qE I rfl (c_hand I.2.1 I.2.2.1 x y) oz_fr_rf (fun e he => by unfold oz_hnR at he; (repeat' split at he) <;> cases he <;> rfl) (fun z => ⟨_, m_hand I.2.1 x y, oz_w_s, oz_fr_w (by omega), fun j hj => oz_w_n hj⟩)
theorem q_price (I : oz_I s a L n o E T len) (x : Int32) : oz_An oz_H3 (f_Main_price x s) (f_Mod_price x) := oz_qE I rfl (c_price I.2.1 I.2.2.1 x) oz_fr_rf (fun e he => by unfold oz_pcP at he; (repeat' split at he) <;> cases he <;> rfl) (fun z => ⟨_, m_price I.2.1 x, oz_w_s, oz_fr_w (by omega), fun j hj => oz_w_n hj⟩)
theorem q_change (I : oz_I s a L n o E T len) (x y : Int32) : oz_An oz_H3 (f_Main_change x y s) (f_Mod_change x y) := by
  obtain ⟨t, k1, k2⟩ := c_change I.2.1 I.2.2.1 x y
  refine oz_qE I rfl k1 (oz_fr_mono k2 (by omega)) (fun e he => by unfold oz_cgR at he; (repeat' split at he) <;> cases he <;> rfl) (fun z => ?_)
  obtain ⟨u, l1, l2, l3, l4⟩ := m_change (s := z) I.2.1 x y
  exact ⟨u, l1, l2, oz_fr_mono l3 (by omega), l4⟩
theorem q_team (I : oz_I s a L n o E T len) (x : Int32) : oz_An oz_H3 (f_Main_team x s) (f_Mod_team x) := by
  obtain ⟨t, k1, k2⟩ := c_team I.2.1 I.2.2.1 x
  refine oz_qE I rfl k1 (oz_fr_mono k2 (by omega)) (fun e he => by unfold oz_team at he; (repeat' split at he) <;> cases he <;> rfl) (fun z => ?_)
  obtain ⟨u, l1, l2, l3, l4⟩ := m_team (s := z) I.2.1 x
  exact ⟨u, l1, l2, oz_fr_mono l3 (by omega), l4⟩
theorem q_pairs (I : oz_I s a L n o E T len) (x : Int32) : oz_An oz_H3 (f_Main_pairs x s) (f_Mod_pairs x) := by
  obtain ⟨t, k1, k2⟩ := c_pairs I.2.1 I.2.2.1 x
  refine oz_qE I rfl k1 (oz_fr_mono k2 (by omega)) (fun e he => by unfold oz_pairs at he; (repeat' split at he) <;> cases he <;> rfl) (fun z => ?_)
  obtain ⟨u, l1, l2, l3, l4⟩ := m_pairs (s := z) I.2.1 x
  exact ⟨u, l1, l2, oz_fr_mono l3 (by omega), l4⟩
theorem q_trial (I : oz_I s a L n o E T len) (x y : Int32) : oz_An oz_H0 (f_Main_trial x y s) (f_Mod_trial x y) := by
  obtain ⟨t, k1, k2⟩ := c_trial I.2.1 I.2.2.1 x y
  refine oz_qE I rfl k1 (oz_fr_mono k2 (by omega)) (fun e he => by unfold oz_trl at he; (repeat' split at he) <;> cases he <;> rfl) (fun z => ?_)
  obtain ⟨u, l1, l2, l3, l4⟩ := m_trial (s := z) I.2.1 x y
  exact ⟨u, l1, l2, oz_fr_mono l3 (by omega), l4⟩
theorem q_span (I : oz_I s a L n o E T len) (x y : Int32) : oz_An oz_H0 (f_Main_span x y s) (f_Mod_span x y) := by
  obtain ⟨t, k1, k2⟩ := c_span I.2.1 I.2.2.1 x y
  refine oz_qE I rfl k1 (oz_fr_mono k2 (by omega)) (fun e he => by unfold oz_spn at he; (repeat' split at he) <;> cases he <;> rfl) (fun z => ?_)
  obtain ⟨u, l1, l2, l3, l4⟩ := m_span (s := z) I.2.1 x y
  exact ⟨u, l1, l2, oz_fr_mono l3 (by omega), l4⟩
/-! the text changes, and nothing else -/
theorem oz_IT {t : lf_S} {T' : Nat → Nat} {len' : Nat} (I : oz_I s a L n o E T len) (hT : oz_T t T' len') (hp : ∀ p, ¬ (p = 1 ∨ p = 2 ∨ p = 389 ∨ p = 394 ∨ (3 ≤ p ∧ p < 10) ∨ p = 39 ∨ (40 ≤ p ∧ p < 70) ∨ p = 392 ∨ 395 ≤ p) → t.1 p = s.1 p) (h2 : t.1 1 2 = s.1 1 2) (hj : ∀ j, j = 3 ∨ j = 6 ∨ j = 12 → t.1 389 j = s.1 389 j) : oz_Inv t := by
  obtain ⟨i1, i2, i3, i4, i5, i6, i7, i8, i9, i10⟩ := I
  refine ⟨a, L, n, o, E, T', len', oz_row i1 (hp 390 (by omega)), i2, oz_C_fr i2 i3 (fun p p1 p2 => hp p (by omega)), oz_LW_cg i4 (fun p p1 p2 => hp p (by omega)) rfl rfl (fun _ _ => rfl), hT, by rw [h2, hj 12 (by omega)]; exact i6, oz_PC_fr i7 (fun i hi => (i9 i hi).1) (by rw [hp 0 (by omega)]) (by rw [hp 0 (by omega)]) (fun p p1 p2 => hp p (by omega)), oz_PM_fr i8 (hj 6 (by omega)) (hp 393 (by omega)), i9, ?_⟩
  rcases i10 with ⟨m1, m2⟩ | ⟨m1, m2, e, Le, m3, m4, m5, m6⟩
  · exact Or.inl ⟨by rw [hp 0 (by omega)]; exact m1, (hj 3 (by omega)).trans m2⟩
  · exact Or.inr ⟨by rw [hp 0 (by omega)]; exact m1, (hj 3 (by omega)).trans m2, e, Le, m3, oz_C_fr m3 m4 (fun p p1 p2 => hp p (by omega)), oz_LW_cg m5 (fun p p1 p2 => hp p (by omega)) rfl rfl (fun _ _ => rfl), fun j hj => by rw [hp 391 (by omega)]; exact m6 j hj⟩
theorem oz_qT {H : Nat → Option Int32} {F : Option ((Nat ⊕ Int32) × lf_S)} {G : lf_S → Option (Int32 × lf_S)} {R : Nat ⊕ Int32} {s1 : lf_S} (I : oz_I s a L n o E T len) (cd : Nat → Nat) (hF : F = some (R, s1)) (c1 : s1.1 1 1 = nI 0) (c2 : s1.1 1 2 = s.1 1 2) (f : oz_fr (fun p => p = 1 ∨ (3 ≤ p ∧ p < 10)) s s1) (hH : ∀ e, R = Sum.inl e → H e = some (nI (cd e)) ∧ 1 ≤ cd e ∧ cd e < 10) (hG : ∀ x, oz_TN x T len → ∃ t, G x = some (R.elim (fun _ => nI 0) id, t) ∧ t.1 389 0 = R.elim (fun e => nI (cd e)) (fun _ => nI 0) ∧ t.1 389 8 = nI 0 ∧ oz_fr (fun p => p = 389 ∨ 395 ≤ p) x t ∧ ∀ j, j ≠ 8 → j ≠ 0 → t.1 389 j = x.1 389 j) : oz_An H F G := by
  refine oz_An_of cd hF hH (fun x hx => ?_)
  have hp : ∀ p, ¬ (p = 1 ∨ (3 ≤ p ∧ p < 10)) → x.1 p = s.1 p := fun p h => by rw [hx]; exact f.1 p h
  have hT := I.2.2.2.2.1
  obtain ⟨t, g1, g2, g3, g4, g5⟩ := hG x ⟨trivial, by rw [hp 389 (by omega)]; exact hT.2.1, hT.2.2.1, fun i hi => ⟨(hT.2.2.2 i hi).1, trivial, by rw [hp 394 (by omega)]; exact (hT.2.2.2 i hi).2.2⟩⟩
  refine ⟨t, g1, g2, g4.2, oz_IT (T' := T) (len' := 0) I ⟨by rw [g4.1 1 (by omega), hx]; exact c1, g3, by omega, fun i hi => absurd hi (by omega)⟩ ?_ (by rw [g4.1 1 (by omega), hx]; exact c2) (fun j hj => by rw [g5 j (by omega) (by omega), hp 389 (by omega)])⟩
  exact fun p h => by rw [g4.1 p (by omega), hp p (by omega)]
theorem q_found (I : oz_I s a L n o E T len) (x : Int32) : oz_An oz_H0 (f_Main_found x s) (f_Mod_found x) := by
  obtain ⟨t, k1, k2, k3, k4⟩ := c_foundK I.2.2.2.2.1 x
  refine oz_qT I (fun _ => 1) k1 k2 k3 (oz_fr_mono k4 (by omega)) (fun e he => by split at he <;> cases he; exact ⟨rfl, by omega, by omega⟩) (fun z hz => ?_)
  obtain ⟨u, l1, l2, l3, l4, l5⟩ := m_foundM hz x
  refine ⟨u, ?_, ?_, l3, oz_fr_mono l4 (by omega), l5⟩
  · rw [l1]; split <;> rfl
  · rw [l2]; split <;> rfl
theorem q_look (I : oz_I s a L n o E T len) : oz_An oz_H0 (f_Main_look s) f_Mod_look := by
  obtain ⟨t, k1, k2, k3, k4⟩ := c_lookK I.2.2.2.2.1
  refine oz_qT I (fun _ => 1) k1 k2 k3 (oz_fr_mono k4 (by omega)) (fun e he => by split at he <;> cases he; exact ⟨rfl, by omega, by omega⟩) (fun z hz => ?_)
  obtain ⟨u, l1, l2, l3, l4, l5⟩ := m_lookM hz
  refine ⟨u, ?_, ?_, l3, oz_fr_mono l4 (by omega), l5⟩
  · rw [l1]; split <;> rfl
  · rw [l2]; split <;> rfl
theorem oz_pcR_cd {x : Int32} {v : Nat → Int32} : nI (oz_pcF T len x) = (oz_pcR T len x v).elim (fun e => nI (if e = 3 then 1 else 2)) (fun _ => nI 0) := by
  unfold oz_pcF oz_pcR
  (repeat' split) <;> rfl
theorem oz_pcR_e {x : Int32} {v : Nat → Int32} (e : Nat) (he : oz_pcR T len x v = Sum.inl e) : oz_H30 e = some (nI (if e = 3 then 1 else 2)) ∧ 1 ≤ (if e = 3 then 1 else 2) ∧ (if e = 3 then 1 else 2) < 10 := by
  unfold oz_pcR at he
  (repeat' split at he) <;> cases he
  · exact ⟨rfl, by decide, by decide⟩
  · exact ⟨rfl, by decide, by decide⟩
theorem q_pieces (I : oz_I s a L n o E T len) (x : Int32) : oz_An oz_H30 (f_Main_pieces x s) (f_Mod_pieces x) := by
  obtain ⟨t, k1, k2, k3, k4⟩ := c_piecesK I.2.2.2.2.1 x
  refine oz_qT I (fun e => if e = 3 then 1 else 2) k1 k2 k3 (oz_fr_mono k4 (by omega)) oz_pcR_e (fun z hz => ?_)
  obtain ⟨u, l1, l2, l3, l4, l5⟩ := m_piecesM hz x
  exact ⟨u, l1, l2.trans oz_pcR_cd, l3, oz_fr_mono l4 (by omega), l5⟩
theorem q_rod (I : oz_I s a L n o E T len) (x y : Int32) : oz_An oz_H30 (f_Main_rod x y s) (f_Mod_rod x y) := by
  obtain ⟨t, k1, k2, k3, k4⟩ := c_rodK I.2.2.2.2.1 x y
  refine oz_qT I (fun e => if e = 3 then 1 else 2) k1 k2 k3 (oz_fr_mono k4 (by omega)) oz_pcR_e (fun z hz => ?_)
  obtain ⟨u, l1, l2, l3, l4, l5⟩ := m_rodM hz x y
  exact ⟨u, l1, l2.trans oz_pcR_cd, l3, oz_fr_mono l4 (by omega), l5⟩
/-! answers that cannot fail -/
theorem oz_sc0 {x : lf_S} : oz_fr (fun p => p = 389 ∨ (3 ≤ p ∧ p < 10) ∨ p = 39 ∨ (40 ≤ p ∧ p < 70) ∨ p = 392 ∨ 395 ≤ p) x (lf_w x 389 0 (nI 0)) ∧ ∀ j, j = 3 ∨ j = 6 ∨ j = 8 ∨ j = 12 → (lf_w x 389 0 (nI 0)).1 389 j = x.1 389 j := ⟨oz_fr_w (by omega), fun j hj => oz_w_n (by omega)⟩
theorem k_fault (I : oz_I s a L n o E T len) : ∃ t, f_case_4 s = some t ∧ oz_Inv t := oz_case0 I (F := f_Main_fault s) (G := f_Mod_fault) c_fault ⟨_, by rw [m_fault, ← I.2.2.2.2.2.1], oz_sc0.1, oz_sc0.2⟩
theorem k_twins (I : oz_I s a L n o E T len) : ∃ t, f_case_40 s = some t ∧ oz_Inv t := oz_case0 I (F := f_Main_twins s) (G := f_Mod_twins) (c_twinsR I.2.1 I.2.2.1) ⟨_, m_twinsR I.2.1, oz_sc0.1, oz_sc0.2⟩
theorem k_lengths (I : oz_I s a L n o E T len) : ∃ t, f_case_42 s = some t ∧ oz_Inv t := oz_case0 I (F := f_Main_lengths s) (G := f_Mod_lengths) (c_lengthsR I.2.1 I.2.2.1) ⟨_, m_lengthsR I.2.1, oz_sc0.1, oz_sc0.2⟩
theorem oz_LW_0 {q : Nat} (h : oz_LW s q a L) : s.1 q 0 = nI (a 1) := by
  rcases h with ⟨_, _, h⟩ | ⟨h1, _, _, _, _, h6⟩
  · exact h
  · rw [h1]; exact h6.1
theorem k_count (I : oz_I s a L n o E T len) (x : Int32) : ∃ t, f_case_52 x s = some t ∧ oz_Inv t := oz_case0 I (F := f_Main_count x s) (G := f_Mod_count x) (c_count I.2.1 I.2.2.1 (oz_LW_0 I.2.2.2.1) I.2.2.2.2.2.2.1.2.2.1 x) ⟨_, m_count I.2.1 I.2.2.2.2.2.2.2.1.2.1 x, oz_sc0.1, oz_sc0.2⟩
end
