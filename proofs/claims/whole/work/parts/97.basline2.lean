/-! ===== the line of a basket, the model's ===== -/
def oz_wrR (a : Nat → Nat) (c : Nat) (R : Nat → Nat) : Nat → Nat := fun j => if 43 + 11 * a 4 + 5 ≤ j ∧ j < 43 + 11 * a 4 + 5 + c then R (j - (43 + 11 * a 4 + 5)) else a j
theorem oz_wrR_0 {a R : Nat → Nat} : oz_wrR a 0 R = a := by
  funext j
  unfold oz_wrR
  rw [if_neg (by omega)]
theorem oz_wrR_2 {a R : Nat → Nat} {c v w : Nat} : oz_up (oz_up (oz_wrR a c R) (43 + 11 * a 4 + 5 + c) v) (43 + 11 * a 4 + 5 + c + 1) w = oz_wrR a (c + 2) (oz_up (oz_up R c v) (c + 1) w) := by
  funext j
  by_cases c1 : j = 43 + 11 * a 4 + 5 + c + 1
  · rw [c1, oz_up_s]
    unfold oz_wrR
    rw [if_pos (by omega), show 43 + 11 * a 4 + 5 + c + 1 - (43 + 11 * a 4 + 5) = c + 1 by omega, oz_up_s]
  · rw [oz_up_n c1]
    by_cases c2 : j = 43 + 11 * a 4 + 5 + c
    · rw [c2, oz_up_s]
      unfold oz_wrR
      rw [if_pos (by omega), show 43 + 11 * a 4 + 5 + c - (43 + 11 * a 4 + 5) = c by omega, oz_up_n (by omega), oz_up_s]
    · rw [oz_up_n c2]
      unfold oz_wrR
      by_cases c3 : 43 + 11 * a 4 + 5 ≤ j ∧ j < 43 + 11 * a 4 + 5 + c
      · rw [if_pos c3, if_pos (by omega), oz_up_n (by omega), oz_up_n (by omega)]
      · rw [if_neg c3, if_neg (by omega)]
theorem oz_wrR_hi {a R : Nat → Nat} {c j : Nat} (h4 : a 4 < 5) (hc : c ≤ 6) (hj : 98 ≤ j) : oz_wrR a c R j = a j := by
  unfold oz_wrR
  rw [if_neg (by omega)]
theorem oz_wrR_lo {a R : Nat → Nat} {c j : Nat} (hj : j < 43) : oz_wrR a c R j = a j := by
  unfold oz_wrR
  rw [if_neg (by omega)]
theorem oz_fm_row {s u : lf_S} {a e : Nat → Nat} (f : oz_fm (oz_md s e) (oz_md u e)) : oz_fm (oz_md s a) (oz_md u a) := by
  refine ⟨⟨fun p hp => ?_, f.1.2⟩, fun j h1 h2 => ?_⟩
  · by_cases c : p = 390
    · subst c; rfl
    · have := f.1.1 p hp
      rw [oz_md_o c, oz_md_o c] at this
      rw [oz_md_o c, oz_md_o c]
      exact this
  · have := f.2 j h1 h2
    rw [oz_md_o (by omega), oz_md_o (by omega)] at this
    rw [oz_md_o (by omega), oz_md_o (by omega)]
    exact this
theorem oz_fm_9 {s u : lf_S} {a : Nat → Nat} (f : oz_fm (oz_md s a) (oz_md u a)) (h : s.1 389 9 = oz_N) : u.1 389 9 = oz_N := by
  have := f.2 9 (by omega) (by omega)
  rw [oz_md_o (by omega), oz_md_o (by omega)] at this
  exact this.trans h
theorem oz_MX_row {s : lf_S} {T : Nat → Nat} {len : Nat} {a e : Nat → Nat} {st : Nat ⊕ Nat} (X : oz_MX (oz_md s a) T len st) (h : s.1 389 9 = oz_N) : oz_MX (oz_md s e) T len st := by
  have := oz_MX_md (a := e) X (by rw [oz_md_o (by omega)]; exact h)
  rwa [oz_md_md] at this
/-- a digit behind the last pair is a fault -/
def oz_fin (T : Nat → Nat) (len : Nat) (st : Nat ⊕ Nat) : Nat ⊕ Nat := if oz_isN T len st = true then oz_flt st else st
theorem oz_isN_r {T : Nat → Nat} {len : Nat} {st : Nat ⊕ Nat} (h : oz_isN T len st = true) : ∃ p, st = Sum.inr p ∧ p < len ∧ 48 ≤ T p ∧ T p ≤ 57 := by
  cases st with
  | inl q => exact Bool.noConfusion h
  | inr p =>
    have h' : (decide (p < len) && oz_dg T p) = true := h
    rw [Bool.and_eq_true] at h'
    have := of_decide_eq_true h'.2
    exact ⟨p, rfl, of_decide_eq_true h'.1, this.1, this.2⟩
theorem oz_wd_dg {T : Nat → Nat} {len t p : Nat} (hl : oz_txl t = true) (h0 : 0 < (mj_tx t).length) (h : 48 ≤ T p ∧ T p ≤ 57) : oz_wd T len t p = false := by
  cases hz : oz_wd T len t p with
  | false => rfl
  | true =>
    exfalso
    unfold oz_wd at hz
    rw [Bool.and_eq_true, Bool.and_eq_true, oz_ok_t] at hz
    have a := of_decide_eq_true (hz.2.1 0 h0)
    have b : (97 : Int32) ≤ (mj_tx t).getD 0 0 := by
      unfold oz_txl at hl
      rw [List.all_eq_true] at hl
      have hm : (mj_tx t).getD 0 0 ∈ mj_tx t := by
        rw [List.getD_eq_getElem?_getD, List.getElem?_eq_getElem h0]
        exact List.getElem_mem h0
      exact (of_decide_eq_true (hl _ hm)).1
    rw [← a, pl_97, oz_le (by omega) (by rw [Nat.add_zero]; omega), Nat.add_zero] at b
    omega
theorem oz_fin_nd {T : Nat → Nat} {len t : Nat} {st : Nat ⊕ Nat} (hl : oz_txl t = true) (h0 : 0 < (mj_tx t).length) : oz_ndW T len t (oz_fin T len st) = oz_ndW T len t st := by
  unfold oz_fin
  by_cases c : oz_isN T len st = true
  · rw [if_pos c]
    obtain ⟨p, rfl, h1, h2⟩ := oz_isN_r c
    have e1 : oz_ndW T len t (oz_flt (Sum.inr p)) = Sum.inl p := rfl
    have e2 : oz_ndW T len t (Sum.inr p) = if oz_wd T len t p = true then oz_toW T len t (Sum.inr p) else Sum.inl p := rfl
    rw [e1, e2, oz_wd_dg hl h0 h2, if_neg Bool.noConfusion]
  · rw [if_neg c]
section
variable {s : lf_S} {T : Nat → Nat} {len : Nat} {a : Nat → Nat}
theorem m_bl60 (h4 : a 4 < 5) {c3 c4 : Int32} : ∀ k c R (s : lf_S) p fuel, c + 2 * k = 6 → k + 1 < fuel → (k = 0 → oz_isN T len (Sum.inr p) = true) → oz_MX (oz_md s (oz_wrR a c R)) T len (Sum.inr p) → s.1 389 9 = oz_N → ∃ u c' b, f_Mod_basketLine_60 (nI (43 + 11 * a 4)) c3 c4 fuel (nI c) (lf_i true) (oz_md s (oz_wrR a c R)) = some (nI c', oz_md u b) ∧ oz_MX (oz_md u b) T len (oz_fin T len (oz_wps T len k R c (Sum.inr p)).2.2) ∧ oz_fm (oz_md s a) (oz_md u a) ∧ (∀ j, j < 43 ∨ 98 ≤ j → b j = a j) ∧ (∀ p', oz_fin T len (oz_wps T len k R c (Sum.inr p)).2.2 = Sum.inr p' → b = oz_wrR a (oz_wps T len k R c (Sum.inr p)).2.1 (oz_wps T len k R c (Sum.inr p)).1 ∧ c' = (oz_wps T len k R c (Sum.inr p)).2.1) := by
  intro k
  induction k with
  | zero =>
    intro c R s p fuel hc hf hN X h9
    obtain ⟨fuel, rfl⟩ : ∃ m, fuel = m + 2 := ⟨fuel - 2, by omega⟩
    have hN' := hN rfl
    obtain ⟨y, k1, k2, k3, k4⟩ := m_here X
    have hp := oz_MX_p X
    have hl := X.2.1
    have hy := (k4 p rfl).1
    obtain ⟨u1, l1, l2, l3⟩ := m_wrong k2 (q := p) (by omega) (fun p' hp' => by cases hp'; rfl)
    obtain ⟨w2, u2, d1, d2, d3, d4⟩ := m_figures l2 (lo := 1) (hi := nI 4) (by omega)
    obtain ⟨w3, u3, e1, e2, e3, e4⟩ := m_figures d2 (lo := 1) (hi := nI 4) (by omega)
    obtain ⟨u4, i1, i2, i3⟩ := m_isFigure e2
    have f4 := oz_fm_tr k3 (oz_fm_tr l3 (oz_fm_tr d3 (oz_fm_tr e3 i3)))
    obtain ⟨u, rfl⟩ : ∃ z, u4 = oz_md z (oz_wrR a c R) := ⟨u4, oz_fm_md f4⟩
    have ef : oz_fin T len (oz_wps T len 0 R c (Sum.inr p)).2.2 = Sum.inl p := by
      show (if oz_isN T len (Sum.inr p) = true then oz_flt (Sum.inr p) else Sum.inr p) = _
      rw [if_pos hN']; rfl
    rw [ef]
    refine ⟨u, 6, oz_wrR a c R, ?_, i2, oz_fm_row f4, fun j hj => ?_, fun p' hp' => nomatch hp'⟩
    · obtain rfl : c = 6 := by omega
      rw [f_Mod_basketLine_60, if_neg (show ¬ (lf_i true = 0) by decide +kernel), pl_1, oz_neg1, if_pos (oz_at X), pl_6, if_pos rfl, k1, Option.bind_some]
      simp only [pl_4, lf_lt]
      rw [hy, l1, Option.bind_some, d1, Option.bind_some, e1, Option.bind_some]
      have ei : oz_isN T len (oz_nmS T len 1 (nI 4) (oz_nmS T len 1 (nI 4) (oz_flt (Sum.inr p)))) = false := rfl
      rw [ei] at i1
      simp only [if_neg (oz_atl e2), i1, Option.bind_some]
      rw [f_Mod_basketLine_60, if_pos (show lf_i false = 0 by decide +kernel)]
    · rcases hj with hj | hj
      · exact oz_wrR_lo hj
      · exact oz_wrR_hi h4 (by omega) hj
  | succ k ih =>
    intro c R s p fuel hc hf hN X h9
    obtain ⟨fuel, rfl⟩ : ∃ m, fuel = m + 1 := ⟨fuel - 1, by omega⟩
    obtain ⟨w2, u2, d1, d2, d3, d4⟩ := m_figures X (lo := 1) (hi := nI 4) (by omega)
    obtain ⟨w3, u3, e1, e2, e3, e4⟩ := m_figures d2 (lo := 1) (hi := nI 4) (by omega)
    have f3 := oz_fm_tr d3 e3
    obtain ⟨u, rfl⟩ : ∃ z, u3 = oz_md z (oz_wrR a c R) := ⟨u3, oz_fm_md f3⟩
    have f3' : oz_fm (oz_md s a) (oz_md u a) := oz_fm_row f3
    have n9 := oz_fm_9 f3' h9
    have ex : oz_wps T len (k + 1) R c (Sum.inr p) = if oz_isN T len (oz_nmS T len 1 (nI 4) (oz_nmS T len 1 (nI 4) (Sum.inr p))) = true then oz_wps T len k (oz_up (oz_up R c (oz_nmV T len 1 (nI 4) (Sum.inr p))) (c + 1) (oz_nmV T len 1 (nI 4) (oz_nmS T len 1 (nI 4) (Sum.inr p)))) (c + 2) (oz_nmS T len 1 (nI 4) (oz_nmS T len 1 (nI 4) (Sum.inr p))) else (oz_up (oz_up R c (oz_nmV T len 1 (nI 4) (Sum.inr p))) (c + 1) (oz_nmV T len 1 (nI 4) (oz_nmS T len 1 (nI 4) (Sum.inr p))), c + 2, oz_nmS T len 1 (nI 4) (oz_nmS T len 1 (nI 4) (Sum.inr p))) := rfl
    rw [f_Mod_basketLine_60, if_neg (show ¬ (lf_i true = 0) by decide +kernel), pl_1, oz_neg1, if_pos (oz_at X), pl_6, if_neg (by rw [oz_eq (by omega) (by omega)]; omega)]
    simp only [pl_2, pl_4, pl_5, lf_lt, d1, e1, Option.bind_some]
    cases hs : oz_nmS T len 1 (nI 4) (oz_nmS T len 1 (nI 4) (Sum.inr p)) with
    | inl q =>
      rw [hs] at e2 ex
      have eN : oz_isN T len (Sum.inl q) = false := rfl
      rw [eN, if_neg Bool.noConfusion] at ex
      obtain ⟨u4, i1, i2, i3⟩ := m_isFigure e2
      have f4 := oz_fm_tr f3 i3
      obtain ⟨u', rfl⟩ : ∃ z, u4 = oz_md z (oz_wrR a c R) := ⟨u4, oz_fm_md f4⟩
      rw [ex]
      refine ⟨u', c, oz_wrR a c R, ?_, i2, oz_fm_row f4, fun j hj => ?_, fun p' hp' => nomatch hp'⟩
      · rw [if_neg (oz_atl e2), i1, Option.bind_some]
        obtain ⟨fuel, rfl⟩ : ∃ m, fuel = m + 1 := ⟨fuel - 1, by omega⟩
        rw [f_Mod_basketLine_60, eN, if_pos (show lf_i false = 0 by decide +kernel)]
      · rcases hj with hj | hj
        · exact oz_wrR_lo hj
        · exact oz_wrR_hi h4 (by omega) hj
    | inr p2 =>
      obtain ⟨p1, hp1⟩ := oz_nmS_r hs
      have v1 := d4 p1 hp1
      have v2 := e4 p2 hs
      rw [hs] at e2 ex
      have e2' : oz_MX (oz_md u (oz_wrR a (c + 2) (oz_up (oz_up R c (oz_nmV T len 1 (nI 4) (Sum.inr p))) (c + 1) (oz_nmV T len 1 (nI 4) (oz_nmS T len 1 (nI 4) (Sum.inr p)))))) T len (Sum.inr p2) := oz_MX_row e2 n9
      obtain ⟨u4, i1, i2, i3⟩ := m_isFigure e2'
      obtain ⟨u', rfl⟩ : ∃ z, u4 = oz_md z (oz_wrR a (c + 2) (oz_up (oz_up R c (oz_nmV T len 1 (nI 4) (Sum.inr p))) (c + 1) (oz_nmV T len 1 (nI 4) (oz_nmS T len 1 (nI 4) (Sum.inr p))))) := ⟨u4, oz_fm_md i3⟩
      have f4' : oz_fm (oz_md s a) (oz_md u' a) := oz_fm_tr f3' (oz_fm_row i3)
      have n9' := oz_fm_9 f4' h9
      have wr : f_Mod_isFigure (lf_w (lf_w (oz_md u (oz_wrR a c R)) 390 (43 + 11 * a 4 + 5 + c) w2) 390 (43 + 11 * a 4 + 5 + c + 1) w3) = some (oz_isN T len (Sum.inr p2), oz_md u' (oz_wrR a (c + 2) (oz_up (oz_up R c (oz_nmV T len 1 (nI 4) (Sum.inr p))) (c + 1) (oz_nmV T len 1 (nI 4) (oz_nmS T len 1 (nI 4) (Sum.inr p)))))) := by
        rw [v1, v2, oz_md_w, oz_md_w, oz_wrR_2]; exact i1
      rw [if_pos (oz_at e2), nI_add, nI_add, nI_add, oz_ck (by omega) (by omega), oz_ck (by omega) (by omega), wr, Option.bind_some, nI_add]
      cases hN2 : oz_isN T len (Sum.inr p2) with
      | true =>
        rw [hN2, if_pos rfl] at ex
        obtain ⟨u5, c', b, j1, j2, j3, j4, j5⟩ := ih (c + 2) _ u' p2 fuel (by omega) (by omega) (fun _ => hN2) i2 n9'
        rw [ex]
        exact ⟨u5, c', b, j1, j2, oz_fm_tr f4' j3, j4, j5⟩
      | false =>
        rw [hN2, if_neg Bool.noConfusion] at ex
        have ef : oz_fin T len (Sum.inr p2) = Sum.inr p2 := if_neg (by rw [hN2]; exact Bool.noConfusion)
        rw [ex]
        show ∃ u c' b, _ ∧ oz_MX (oz_md u b) T len (oz_fin T len (Sum.inr p2)) ∧ _ ∧ _ ∧ (∀ p', oz_fin T len (Sum.inr p2) = Sum.inr p' → _)
        rw [ef]
        refine ⟨u', c + 2, _, ?_, i2, f4', fun j hj => ?_, fun p' hp' => ⟨rfl, rfl⟩⟩
        · obtain ⟨fuel, rfl⟩ : ∃ m, fuel = m + 1 := ⟨fuel - 1, by omega⟩
          rw [f_Mod_basketLine_60, if_pos (show lf_i false = 0 by decide +kernel)]
        · rcases hj with hj | hj
          · exact oz_wrR_lo hj
          · exact oz_wrR_hi h4 (by omega) hj
def oz_kdu (a : Nat → Nat) (v : Nat × Nat × Nat × Nat) (c : Nat) (R : Nat → Nat) : Nat → Nat := oz_up (oz_up (oz_up (oz_up (oz_up (oz_up (oz_wrR a c R) (43 + 11 * a 4 + 0) v.1) (43 + 11 * a 4 + 1) v.2.1) (43 + 11 * a 4 + 2) v.2.2.1) (43 + 11 * a 4 + 3) v.2.2.2) (43 + 11 * a 4 + 4) c) 4 (a 4 + 1)
theorem m_basketLine {st : Nat ⊕ Nat} {y : Int32} (X : oz_MX (oz_md s a) T len st) (h9 : s.1 389 9 = oz_N) (hn : a 4 < 5) : ∃ u b, f_Mod_basketLine y (oz_md s a) = some (oz_md u b) ∧ oz_MX (oz_md u b) T len (oz_bs4 T len st) ∧ oz_fm (oz_md s a) (oz_md u a) ∧ (∀ j, 98 ≤ j → b j = a j) ∧ (∀ p', oz_bs4 T len st = Sum.inr p' → b = oz_kdu a (oz_bsv T len st) (oz_bsw T len st).2.1 (oz_bsw T len st).1) := by
  have t1 : mj_tx 6 = mj_tx 47 := by decide +kernel
  have t2 : mj_tx 7 = mj_tx 48 := by decide +kernel
  have t3 : mj_tx 8 = mj_tx 49 := by decide +kernel
  have t4 : mj_tx 9 = mj_tx 50 := by decide +kernel
  have t5 : mj_tx 10 = mj_tx 51 := by decide +kernel
  obtain ⟨w1, u1, a1, a2, a3, a4⟩ := m_after X 6 (by decide +kernel) (by decide +kernel) (lo := 3) (hi := nI 24) (by omega)
  rw [oz_ndW_cg t1] at a2 a4
  obtain ⟨w2, u2, b1, b2, b3, b4⟩ := m_after a2 7 (by decide +kernel) (by decide +kernel) (lo := 1) (hi := nI 20) (by omega)
  rw [oz_ndW_cg t2] at b2 b4
  obtain ⟨u3, d1, d2, d3⟩ := m_expects b2 8 (by decide +kernel) (by decide +kernel)
  rw [oz_ndW_cg t3] at d2
  rw [oz_isW_cg t3] at d1
  have f3 := oz_fm_tr a3 (oz_fm_tr b3 d3)
  obtain ⟨u, rfl⟩ : ∃ z, u3 = oz_md z a := ⟨u3, oz_fm_md f3⟩
  have n9 := oz_fm_9 f3 h9
  -- the pairs
  have loop : ∃ u' c' b, f_Mod_basketLine_60 (nI (43 + 11 * a 4)) w1 w2 5000 (nI 0) (lf_i (oz_isW T len 49 (oz_bs2 T len st))) (oz_md u a) = some (nI c', oz_md u' b) ∧ oz_MX (oz_md u' b) T len (oz_fin T len (oz_bsw T len st).2.2) ∧ oz_fm (oz_md s a) (oz_md u' a) ∧ (∀ j, j < 43 ∨ 98 ≤ j → b j = a j) ∧ (∀ p', oz_fin T len (oz_bsw T len st).2.2 = Sum.inr p' → b = oz_wrR a (oz_bsw T len st).2.1 (oz_bsw T len st).1 ∧ c' = (oz_bsw T len st).2.1) := by
    unfold oz_bsw
    cases hs : oz_ndW T len 49 (oz_bs2 T len st) with
    | inl q =>
      have hf : oz_isW T len 49 (oz_bs2 T len st) = false := by
        cases hz : oz_isW T len 49 (oz_bs2 T len st) with
        | false => rfl
        | true =>
          exfalso
          unfold oz_ndW at hs
          rw [hz, if_pos rfl] at hs
          cases hb : oz_bs2 T len st with
          | inl q2 => rw [hb] at hz; exact Bool.noConfusion hz
          | inr p2 =>
            rw [hb] at hs hz
            have hz' : oz_wd T len 49 p2 = true := hz
            have : oz_toW T len 49 (Sum.inr p2) = Sum.inr (oz_sb T len (p2 + (mj_tx 49).length)) := if_pos hz'
            rw [this] at hs
            exact nomatch hs
      have d2' : oz_MX (oz_md u a) T len (oz_ndW T len 49 (oz_bs2 T len st)) := d2
      rw [hs] at d2'
      have ef : oz_fin T len (oz_wps T len 3 (fun _ => 0) 0 (Sum.inl q)).2.2 = Sum.inl q := by
        rw [oz_wps_l]; rfl
      rw [hf, ef]
      refine ⟨u, 0, a, ?_, d2', f3, fun j _ => rfl, fun p' hp' => nomatch hp'⟩
      rw [f_Mod_basketLine_60, if_pos (show lf_i false = 0 by decide +kernel)]
    | inr p =>
      have hf : oz_isW T len 49 (oz_bs2 T len st) = true := by
        cases hz : oz_isW T len 49 (oz_bs2 T len st) with
        | true => rfl
        | false =>
          exfalso
          unfold oz_ndW at hs
          rw [hz, if_neg Bool.noConfusion] at hs
          exact nomatch hs
      have d2' : oz_MX (oz_md u a) T len (oz_ndW T len 49 (oz_bs2 T len st)) := d2
      rw [hs] at d2'
      have e0 : oz_md u a = oz_md u (oz_wrR a 0 (fun _ => 0)) := by rw [oz_wrR_0]
      rw [e0] at d2'
      obtain ⟨u', c', b, j1, j2, j3, j4, j5⟩ := m_bl60 (T := T) (len := len) hn (c3 := w1) (c4 := w2) 3 0 (fun _ => 0) u p 5000 rfl (by omega) (fun z => by omega) d2' n9
      rw [hf, e0]
      exact ⟨u', c', b, j1, j2, oz_fm_tr f3 j3, j4, j5⟩
  obtain ⟨u', c', b, k1, k2, k3, k4, k5⟩ := loop
  obtain ⟨w5, u5, e1, e2, e3, e4⟩ := m_after k2 9 (by decide +kernel) (by decide +kernel) (lo := 1) (hi := nI 6) (by omega)
  rw [oz_ndW_cg t4, oz_fin_nd (by decide +kernel) (by decide +kernel)] at e2 e4
  obtain ⟨w6, u6, g1, g2, g3, g4⟩ := m_after e2 10 (by decide +kernel) (by decide +kernel) (lo := 0) (hi := nI 99) (by omega)
  rw [oz_ndW_cg t5] at g2 g4
  have f6 := oz_fm_tr e3 g3
  obtain ⟨z, rfl⟩ : ∃ z, u6 = oz_md z b := ⟨u6, oz_fm_md f6⟩
  have f6' : oz_fm (oz_md s a) (oz_md z a) := oz_fm_tr k3 (oz_fm_row f6)
  have z9 := oz_fm_9 f6' h9
  have b4v : b 4 = a 4 := k4 4 (Or.inl (by omega))
  unfold f_Mod_basketLine
  rw [pl_4, oz_ck (by omega) (by omega), oz_md_r, pl_5, if_neg (by rw [oz_eq (by omega) (by omega)]; omega), oz_ck (by omega) (by omega), oz_md_r, pl_43, pl_11, pk_mul, nI_add, show (-1 : Int32) = oz_N from rfl]
  simp only [lf_lt, pl_0, pl_1, pl_2, pl_3, pl_6, pl_20, pl_24, pl_99]
  rw [a1, Option.bind_some, b1, Option.bind_some, d1, Option.bind_some]
  have k1' : f_Mod_basketLine_60 (nI (43 + 11 * a 4)) w1 w2 5000 (nI 0) (lf_i (oz_isW T len 49 (oz_nmS T len 1 (nI 20) (oz_ndW T len 48 (oz_nmS T len 3 (nI 24) (oz_ndW T len 47 st)))))) (oz_md u a) = some (nI c', oz_md u' b) := k1
  rw [k1', Option.bind_some, e1, Option.bind_some, g1, Option.bind_some]
  have g2' : oz_MX (oz_md z b) T len (oz_bs4 T len st) := g2
  cases hs : oz_bs4 T len st with
  | inl q =>
    rw [hs] at g2'
    rw [if_neg (oz_atl g2')]
    exact ⟨z, b, rfl, g2', f6', fun j hj => k4 j (Or.inr hj), fun p' hp' => nomatch hp'⟩
  | inr p =>
    rw [hs] at g2'
    obtain ⟨p5, hp5⟩ := oz_nmS_r hs
    obtain ⟨p4, hp4⟩ := oz_ndW_r hp5
    obtain ⟨p3, hp3⟩ := oz_nmS_r hp4
    obtain ⟨pw, hpw⟩ := oz_ndW_r hp3
    have efin : oz_fin T len (oz_bsw T len st).2.2 = Sum.inr pw := by
      unfold oz_fin
      rw [hpw]
      by_cases c : oz_isN T len (Sum.inr pw) = true
      · exfalso
        obtain ⟨p, hp, _, hd⟩ := oz_isN_r c
        cases hp
        rw [hpw] at hp3
        have e2 : oz_ndW T len 50 (Sum.inr pw) = if oz_wd T len 50 pw = true then oz_toW T len 50 (Sum.inr pw) else Sum.inl pw := rfl
        rw [e2, oz_wd_dg (by decide +kernel) (by decide +kernel) hd, if_neg Bool.noConfusion] at hp3
        exact nomatch hp3
      · rw [if_neg c]
    obtain ⟨eb, ec⟩ := k5 pw efin
    obtain ⟨pq, hpq⟩ : ∃ pq, oz_ndW T len 49 (oz_bs2 T len st) = Sum.inr pq := by
      cases h : oz_ndW T len 49 (oz_bs2 T len st) with
      | inr pq => exact ⟨pq, rfl⟩
      | inl q =>
        exfalso
        unfold oz_bsw at hpw
        rw [h, oz_wps_l] at hpw
        exact nomatch hpw
    obtain ⟨p2, hp2⟩ := oz_ndW_r hpq
    obtain ⟨p1, hp1⟩ := oz_nmS_r hp2
    obtain ⟨p0, hp0⟩ := oz_ndW_r hp1
    have v1 := a4 p0 hp0
    have v2 := b4 p2 hp2
    have v5 := e4 p4 hp4
    have v6 := g4 p hs
    rw [if_pos (oz_at g2'), v1, v2, v5, v6, ec, nI_add, nI_add, nI_add, nI_add, nI_add, oz_ck (by omega) (by omega), oz_ck (by omega) (by omega), oz_ck (by omega) (by omega), oz_ck (by omega) (by omega), oz_ck (by omega) (by omega), oz_ck (by omega) (by omega), oz_ck (by omega) (by omega), oz_md_w, oz_md_w, oz_md_w, oz_md_w, oz_md_w, oz_md_r, nI_add, oz_md_w]
    have e4' : oz_up (oz_up (oz_up (oz_up (oz_up b (43 + 11 * a 4 + 0) (oz_nmV T len 3 (nI 24) (oz_ndW T len 47 st))) (43 + 11 * a 4 + 1) (oz_nmV T len 1 (nI 20) (oz_ndW T len 48 (oz_nmS T len 3 (nI 24) (oz_ndW T len 47 st))))) (43 + 11 * a 4 + 2) (oz_nmV T len 1 (nI 6) (oz_ndW T len 50 (oz_bsw T len st).2.2))) (43 + 11 * a 4 + 3) (oz_nmV T len 0 (nI 99) (oz_ndW T len 51 (oz_nmS T len 1 (nI 6) (oz_ndW T len 50 (oz_bsw T len st).2.2))))) (43 + 11 * a 4 + 4) (oz_bsw T len st).2.1 4 = a 4 := by
      rw [oz_up_n (by omega), oz_up_n (by omega), oz_up_n (by omega), oz_up_n (by omega), oz_up_n (by omega), b4v]
    rw [e4']
    refine ⟨z, _, rfl, oz_MX_row g2' z9, f6', fun j hj => ?_, fun p' _ => ?_⟩
    · rw [oz_up_n (by omega), oz_up_n (by omega), oz_up_n (by omega), oz_up_n (by omega), oz_up_n (by omega), oz_up_n (by omega), k4 j (Or.inr hj)]
    · rw [eb]; rfl
end
