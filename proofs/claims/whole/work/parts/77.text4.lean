/-! ===== texts: the model's numbers and signs ===== -/
section
variable {s : lf_S} {T : Nat → Nat} {len : Nat}
theorem m_here {st : Nat ⊕ Nat} (X : oz_MX s T len st) : ∃ t, f_Mod_here s = some (t.1 389 11, t) ∧ oz_MX t T len st ∧ oz_fm s t ∧ ∀ p, st = Sum.inr p → t.1 389 11 = nI p ∧ p ≤ len ∧ oz_sb T len p = p := by
  obtain ⟨t, k1, k2, k3, k4⟩ := m_skip X
  refine ⟨t, ?_, k2, k3, k4⟩
  unfold f_Mod_here
  rw [k1, Option.bind_some]
theorem m_figures18 {v : lf_S} {c1 c2 : Int32} {p : Nat} (h1 : v.1 389 10 = nI len) (h2 : len ≤ 400) (h3 : ∀ i, i < len → T i ≤ 255) (L : oz_LT v T len) : ∀ k x vv fuel, x + k = p + 4 → p ≤ x → x ≤ len → (vv + 1) * 10 ^ k ≤ 10000 → k < fuel → f_Mod_figures_18 c1 c2 (nI p) fuel (nI vv) (lf_w v 389 11 (nI x)) = some (nI (oz_dgs T len k x vv).2, lf_w v 389 11 (nI (oz_dgs T len k x vv).1)) := by
  intro k
  induction k with
  | zero =>
    intro x vv fuel hx hpx hxl hvk hf
    obtain ⟨fuel, rfl⟩ : ∃ m, fuel = m + 1 := ⟨fuel - 1, by omega⟩
    rw [f_Mod_figures_18, oz_w_s, oz_w_n (by omega), h1]
    by_cases c : len ≤ x
    · rw [oz_ile_t c (by omega)]; rfl
    · have e := h3 x (by omega)
      rw [oz_ile_f (by omega) (by omega), m_letter (oz_LT_fm L (oz_fm_w (Or.inl rfl))) h2 (by omega), Option.bind_some, pl_48, pl_57, m_isIn (by omega) (by omega) (by omega), Option.bind_some, oz_sub hpx, pl_3, oz_ilt_t (by omega) (by omega)]
      split <;> rfl
  | succ k ih =>
    intro x vv fuel hx hpx hxl hvk hf
    obtain ⟨fuel, rfl⟩ : ∃ m, fuel = m + 1 := ⟨fuel - 1, by omega⟩
    unfold oz_dgs
    rw [f_Mod_figures_18, oz_w_s, oz_w_n (by omega), h1]
    by_cases c : len ≤ x
    · rw [oz_ile_t c (by omega), if_neg (by omega)]
    · have e := h3 x (by omega)
      rw [oz_ile_f (by omega) (by omega), m_letter (oz_LT_fm L (oz_fm_w (Or.inl rfl))) h2 (by omega), Option.bind_some, pl_48, pl_57, m_isIn (by omega) (by omega) (by omega), Option.bind_some]
      show (if oz_dg T x = true then _ else _) = _
      cases cd : oz_dg T x with
      | false => rw [if_neg Bool.noConfusion, if_neg (by intro z; exact Bool.noConfusion z.2)]
      | true =>
        have hd := of_decide_eq_true cd
        have e10 : (vv + 1) * 10 ^ (k + 1) = (vv + 1) * 10 * 10 ^ k := by rw [Nat.pow_succ, Nat.mul_assoc, Nat.mul_comm (10 ^ k)]
        rw [e10] at hvk
        have hvk2 : (10 * vv + (T x - 48) + 1) * 10 ^ k ≤ 10000 := Nat.le_trans (Nat.mul_le_mul_right _ (by omega)) hvk
        have hk1 : 1 ≤ 10 ^ k := Nat.le_trans Nat.one_le_two_pow (Nat.pow_le_pow_left (by omega) _)
        have hb : 10 * vv + (T x - 48) + 1 ≤ 10000 := Nat.le_trans (Nat.le_mul_of_pos_right _ hk1) hvk2
        rw [if_pos (show true = true from rfl), if_pos (show x < len ∧ true = true from ⟨by omega, rfl⟩), oz_sub hpx, pl_3, oz_ilt_f (by omega) (by omega), Option.bind_some, pl_10, pl_1, pk_mul, nI_add, oz_sub (by omega), nI_add]
        simp only [lf_lt, oz_w_w]
        rw [show 10 * vv + T x - 48 = 10 * vv + (T x - 48) by omega]
        exact ih (x + 1) _ fuel (by omega) (by omega) (by omega) hvk2 (by omega)
theorem m_figures {st : Nat ⊕ Nat} (X : oz_MX s T len st) {lo : Nat} {hi : Int32} (hlo : lo ≤ 1000) : ∃ v t, f_Mod_figures (nI lo) hi s = some (v, t) ∧ oz_MX t T len (oz_nmS T len lo hi st) ∧ oz_fm s t ∧ ∀ p', oz_nmS T len lo hi st = Sum.inr p' → v = nI (oz_nmV T len lo hi st) := by
  unfold f_Mod_figures
  rw [pl_1, oz_neg1]
  cases st with
  | inl q =>
    have h5 := X.2.2.2.2
    rw [h5.1, if_neg (of_eq_false (oz_eqm1 (by have := h5.2.1; omega)))]
    exact ⟨_, s, rfl, X, oz_fm_rf, fun p' hp => nomatch hp⟩
  | inr p =>
    have h5 := X.2.2.2.2
    rw [h5.1, if_pos rfl]
    obtain ⟨v, k1, k2, k3, k4⟩ := m_here X
    obtain ⟨g1, g2, g3⟩ := k4 p rfl
    have k2' := k2
    obtain ⟨h1, h2, h3, h4, h5⟩ := k2
    rw [k1, Option.bind_some]
    simp only [lf_lt]
    rw [g1]
    have k18 := m_figures18 (c1 := nI lo) (c2 := hi) (p := p) h1 h2 h3 h4 4 p 0 5000 rfl (by omega) g2 (by omega) (by omega)
    rw [oz_w_id g1] at k18
    rw [pl_0, k18, Option.bind_some]
    try dsimp only
    have hd := oz_dgs_le (T := T) 4 p 0 g2
    have hd2 : (oz_dgs T len 4 p 0).2 ≤ 10000 := hd.2.2.2
    have eV : oz_nmV T len lo hi (Sum.inr p) = if oz_nm1 T len lo hi p = true then (oz_dgs T len 4 p 0).2 else lo := rfl
    have eS : oz_nmS T len lo hi (Sum.inr p) = if oz_nm1 T len lo hi p = true then Sum.inr (oz_sb T len (oz_dgs T len 4 p 0).1) else Sum.inl p := rfl
    -- the state with a fault at p
    have Xe : oz_MX (lf_w v 389 11 (nI (oz_dgs T len 4 p 0).1)) T len (Sum.inr (oz_sb T len (oz_dgs T len 4 p 0).1)) := by
      refine ⟨(oz_w_n (by omega)).trans h1, h2, h3, oz_LT_fm h4 (oz_fm_w (Or.inl rfl)), ?_⟩
      show (lf_w v 389 11 _).1 389 12 = oz_N ∧ ∃ m, m ≤ len ∧ (lf_w v 389 11 _).1 389 11 = nI m ∧ _
      exact ⟨(oz_w_n (by omega)).trans h5.1, _, hd.2.2.1, oz_w_s, rfl⟩
    have wr : f_Mod_wrong (nI p) (lf_w v 389 11 (nI (oz_dgs T len 4 p 0).1)) = some (lf_w (lf_w v 389 11 (nI (oz_dgs T len 4 p 0).1)) 389 12 (nI p)) := by
      unfold f_Mod_wrong
      rw [pl_1, oz_neg1, oz_w_n (by omega), h5.1, if_pos rfl]
      rfl
    have Xf : oz_MX (lf_w (lf_w v 389 11 (nI (oz_dgs T len 4 p 0).1)) 389 12 (nI p)) T len (Sum.inl p) := by
      refine ⟨(oz_w_n (by omega)).trans ((oz_w_n (by omega)).trans h1), h2, h3, oz_LT_fm h4 (oz_fm_tr (oz_fm_w (Or.inl rfl)) (oz_fm_w (Or.inr rfl))), ?_⟩
      show (lf_w (lf_w v 389 11 _) 389 12 _).1 389 12 = nI p ∧ p ≤ 400 ∧ ∃ m, m ≤ len ∧ (lf_w (lf_w v 389 11 _) 389 12 _).1 389 11 = nI m
      exact ⟨oz_w_s, by omega, _, hd.2.2.1, (oz_w_n (by omega)).trans oz_w_s⟩
    have fe : oz_fm s (lf_w v 389 11 (nI (oz_dgs T len 4 p 0).1)) := oz_fm_tr k3 (oz_fm_w (Or.inl rfl))
    have bad : oz_nm1 T len lo hi p = false → ∃ w t, some (nI (oz_dgs T len 4 p 0).2, lf_w (lf_w v 389 11 (nI (oz_dgs T len 4 p 0).1)) 389 12 (nI p)) = some (w, t) ∧ oz_MX t T len (oz_nmS T len lo hi (Sum.inr p)) ∧ oz_fm s t ∧ ∀ p', oz_nmS T len lo hi (Sum.inr p) = Sum.inr p' → w = nI (oz_nmV T len lo hi (Sum.inr p)) := by
      intro z
      rw [eS, z, if_neg Bool.noConfusion]
      exact ⟨_, _, rfl, Xf, oz_fm_tr fe (oz_fm_w (Or.inr rfl)), fun p' hp => nomatch hp⟩
    rw [wr, oz_w_s]
    simp only [Option.bind_some]
    have hd1 := hd.1
    have hd3 := hd.2.2.1
    simp (disch := first | assumption | omega) only [pl_3, oz_sub, oz_lt, oz_eq]
    by_cases d1 : (oz_dgs T len 4 p 0).1 = p
    · rw [if_pos d1]
      exact bad (by unfold oz_nm1; exact decide_eq_false (fun z => z.1 d1))
    · rw [if_neg d1]
      by_cases d2 : 3 < (oz_dgs T len 4 p 0).1 - p
      · rw [if_pos d2]
        exact bad (by unfold oz_nm1; exact decide_eq_false (fun z => z.2.1 (by omega)))
      · rw [if_neg d2]
        by_cases d3 : (oz_dgs T len 4 p 0).2 < lo
        · rw [if_pos d3]
          exact bad (by unfold oz_nm1; exact decide_eq_false (fun z => by have := z.2.2.1; omega))
        · rw [if_neg d3]
          by_cases d4 : nI (oz_dgs T len 4 p 0).2 ≤ hi
          · have z : oz_nm1 T len lo hi p = true := by unfold oz_nm1; exact decide_eq_true ⟨d1, by omega, by omega, d4⟩
            rw [if_pos d4, eS, eV, z, if_pos rfl, if_pos rfl]
            exact ⟨_, _, rfl, Xe, fe, fun p' _ => rfl⟩
          · rw [if_neg d4]
            exact bad (by unfold oz_nm1; exact decide_eq_false (fun z => d4 z.2.2.2))
theorem oz_at {p : Nat} (X : oz_MX s T len (Sum.inr p)) : s.1 389 12 = oz_N := X.2.2.2.2.1
theorem oz_atl {q : Nat} (X : oz_MX s T len (Sum.inl q)) : ¬ s.1 389 12 = oz_N := by
  have h5 := X.2.2.2.2
  rw [h5.1]
  exact of_eq_false (oz_eqm1 (by have := h5.2.1; omega))
theorem oz_MX_p {p : Nat} (X : oz_MX s T len (Sum.inr p)) : p ≤ len := by
  obtain ⟨_, m, hm, _, e⟩ := X.2.2.2.2
  rw [← e]
  exact (oz_sb_le hm).2
theorem m_expects {st : Nat ⊕ Nat} (X : oz_MX s T len st) (t : Nat) (hl : oz_txl t = true) (ht : (mj_tx t).length ≤ 20) : ∃ u, f_Mod_expects t s = some (oz_isW T len t st, u) ∧ oz_MX u T len (oz_ndW T len t st) ∧ oz_fm s u := by
  unfold f_Mod_expects
  rw [pl_1, oz_neg1]
  cases st with
  | inl q =>
    rw [if_neg (oz_atl X)]
    exact ⟨s, rfl, X, oz_fm_rf⟩
  | inr p =>
    rw [if_pos (oz_at X)]
    obtain ⟨u, k1, k2, k3, k4⟩ := m_has X t hl ht
    have hp := oz_MX_p X
    rw [k1, Option.bind_some]
    simp only [lf_lt]
    have ei : oz_isW T len t (Sum.inr p) = oz_wd T len t p := rfl
    have en : oz_ndW T len t (Sum.inr p) = if oz_wd T len t p = true then oz_toW T len t (Sum.inr p) else oz_flt (Sum.inr p) := rfl
    rw [ei, en]
    cases c : oz_wd T len t p with
    | true => rw [if_pos rfl, if_pos rfl]; exact ⟨u, rfl, k2, k3⟩
    | false =>
      have et : oz_toW T len t (Sum.inr p) = Sum.inr p := if_neg (by rw [c]; exact Bool.noConfusion)
      rw [et] at k2
      have l400 := X.2.1
      obtain ⟨w, l1, l2, l3⟩ := m_wrong k2 (q := p) (by omega) (fun p' hp' => by cases hp'; rfl)
      rw [if_neg Bool.noConfusion, if_neg Bool.noConfusion, k4 c, l1]
      exact ⟨w, rfl, l2, oz_fm_tr k3 l3⟩
theorem m_after {st : Nat ⊕ Nat} (X : oz_MX s T len st) (t : Nat) (hl : oz_txl t = true) (ht : (mj_tx t).length ≤ 20) {lo : Nat} {hi : Int32} (hlo : lo ≤ 1000) : ∃ v u, f_Mod_after t (nI lo) hi s = some (v, u) ∧ oz_MX u T len (oz_nmS T len lo hi (oz_ndW T len t st)) ∧ oz_fm s u ∧ ∀ p', oz_nmS T len lo hi (oz_ndW T len t st) = Sum.inr p' → v = nI (oz_nmV T len lo hi (oz_ndW T len t st)) := by
  unfold f_Mod_after
  rw [pl_1, oz_neg1]
  cases st with
  | inl q =>
    obtain ⟨v, u, k1, k2, k3, k4⟩ := m_figures X (lo := lo) (hi := hi) hlo
    rw [if_neg (oz_atl X), k1]
    exact ⟨v, u, rfl, k2, k3, k4⟩
  | inr p =>
    rw [if_pos (oz_at X)]
    obtain ⟨w, k1, k2, k3, k4⟩ := m_has X t hl ht
    have hp := oz_MX_p X
    rw [k1, Option.bind_some]
    have en : oz_ndW T len t (Sum.inr p) = if oz_wd T len t p = true then oz_toW T len t (Sum.inr p) else oz_flt (Sum.inr p) := rfl
    rw [en]
    cases c : oz_wd T len t p with
    | true =>
      obtain ⟨v, u, l1, l2, l3, l4⟩ := m_figures k2 (lo := lo) (hi := hi) hlo
      rw [if_pos rfl, if_pos rfl, l1]
      exact ⟨v, u, rfl, l2, oz_fm_tr k3 l3, l4⟩
    | false =>
      have et : oz_toW T len t (Sum.inr p) = Sum.inr p := if_neg (by rw [c]; exact Bool.noConfusion)
      rw [et] at k2
      have l400 := X.2.1
      obtain ⟨w2, m1, m2, m3⟩ := m_wrong k2 (q := p) (by omega) (fun p' hp' => by cases hp'; rfl)
      obtain ⟨v, u, l1, l2, l3, l4⟩ := m_figures m2 (lo := lo) (hi := hi) hlo
      rw [if_neg Bool.noConfusion, if_neg Bool.noConfusion, k4 c, m1, Option.bind_some, l1]
      exact ⟨v, u, rfl, l2, oz_fm_tr (oz_fm_tr k3 m3) l3, l4⟩
theorem m_isFigure {st : Nat ⊕ Nat} (X : oz_MX s T len st) : ∃ u, f_Mod_isFigure s = some (oz_isN T len st, u) ∧ oz_MX u T len st ∧ oz_fm s u := by
  obtain ⟨t, k1, k2, k3, k4⟩ := m_skip X
  unfold f_Mod_isFigure
  rw [k1, Option.bind_some, pl_1, oz_neg1]
  cases st with
  | inl q => rw [if_neg (oz_atl k2)]; exact ⟨t, rfl, k2, k3⟩
  | inr p =>
    obtain ⟨g1, g2, g3⟩ := k4 p rfl
    have k2' := k2
    obtain ⟨h1, h2, h3, h4, h5⟩ := k2
    rw [if_pos (oz_at k2'), h1, g1]
    refine ⟨t, ?_, k2', k3⟩
    show _ = some (decide (p < len) && oz_dg T p, t)
    by_cases c : len ≤ p
    · rw [oz_ile_t c (by omega), decide_eq_false (by omega)]; rfl
    · have e := h3 p (by omega)
      rw [oz_ile_f (by omega) (by omega), m_letter h4 h2 (by omega), Option.bind_some, pl_48, pl_57, m_isIn (by omega) (by omega) (by omega), Option.bind_some, show decide (p < len) = true from decide_eq_true (by omega), Bool.true_and]
      show (if oz_dg T p = true then _ else _) = _
      cases oz_dg T p <;> rfl
theorem m_isSign {p : Nat} (X : oz_MX s T len (Sum.inr p)) {c : Nat} (hc : c ≤ 255) : ∃ u, f_Mod_isSign (nI c) s = some (oz_isG T len c (Sum.inr p), u) ∧ oz_MX u T len (Sum.inr p) ∧ oz_fm s u ∧ u.1 389 11 = nI p := by
  obtain ⟨t, k1, k2, k3, k4⟩ := m_skip X
  unfold f_Mod_isSign
  obtain ⟨g1, g2, g3⟩ := k4 p rfl
  have k2' := k2
  obtain ⟨h1, h2, h3, h4, h5⟩ := k2
  rw [k1, Option.bind_some, h1, g1]
  refine ⟨t, ?_, k2', k3, g1⟩
  show _ = some (decide (p < len ∧ T p = c), t)
  by_cases d : len ≤ p
  · rw [oz_ile_t d (by omega), decide_eq_false (by omega)]
  · have e := h3 p (by omega)
    rw [oz_ile_f (by omega) (by omega), m_letter h4 h2 (by omega), Option.bind_some]
    by_cases d2 : T p = c
    · rw [if_pos (by rw [d2]), decide_eq_true ⟨by omega, d2⟩]
    · rw [if_neg (by rw [oz_eq (by omega) (by omega)]; exact d2), decide_eq_false (fun z => d2 z.2)]
end
