/-! ===== words that stand for each other; the sort of a bed ===== -/
section
variable {s : lf_S} {T : Nat → Nat} {len : Nat}
theorem oz_wd_cg {t u p : Nat} (h : mj_tx t = mj_tx u) : oz_wd T len t p = oz_wd T len u p := by
  unfold oz_wd
  rw [h]
theorem oz_isW_cg {t u : Nat} {st : Nat ⊕ Nat} (h : mj_tx t = mj_tx u) : oz_isW T len t st = oz_isW T len u st := by
  cases st with
  | inl q => rfl
  | inr p => exact oz_wd_cg h
theorem oz_toW_cg {t u : Nat} {st : Nat ⊕ Nat} (h : mj_tx t = mj_tx u) : oz_toW T len t st = oz_toW T len u st := by
  cases st with
  | inl q => rfl
  | inr p =>
    show (if oz_wd T len t p = true then Sum.inr (oz_sb T len (p + (mj_tx t).length)) else Sum.inr p) = (if oz_wd T len u p = true then Sum.inr (oz_sb T len (p + (mj_tx u).length)) else Sum.inr p)
    rw [oz_wd_cg h, h]
theorem oz_ndW_cg {t u : Nat} {st : Nat ⊕ Nat} (h : mj_tx t = mj_tx u) : oz_ndW T len t st = oz_ndW T len u st := by
  unfold oz_ndW
  rw [oz_isW_cg h, oz_toW_cg h]
/-- two words at one place are the same -/
theorem oz_wd_ex {t u p : Nat} (hT : ∀ i, i < len → T i ≤ 255) (ht : oz_txl t = true) (hu : oz_txl u = true) (hp : p ≤ len) (h1 : oz_wd T len t p = true) (h2 : oz_wd T len u p = true) : mj_tx t = mj_tx u := by
  rw [oz_wd_ref hT ht hp, Bool.and_eq_true, oz_ok_t] at h1
  rw [oz_wd_ref hT hu hp, Bool.and_eq_true, oz_ok_t] at h2
  have e1 := of_decide_eq_true h1.1
  have e2 := of_decide_eq_true h2.1
  have el : (mj_tx t).length = (mj_tx u).length := by omega
  refine List.ext_getElem el (fun i hi1 hi2 => ?_)
  have a1 := of_decide_eq_true (h1.2 i hi1)
  have a2 := of_decide_eq_true (h2.2 i hi2)
  rw [List.getD_eq_getElem?_getD, List.getElem?_eq_getElem hi1] at a1
  rw [List.getD_eq_getElem?_getD, List.getElem?_eq_getElem hi2] at a2
  exact a1.symm.trans a2
theorem oz_toW_f {t : Nat} {st : Nat ⊕ Nat} (h : oz_isW T len t st = false) : oz_toW T len t st = st := by
  cases st with
  | inl q => rfl
  | inr p => exact if_neg (by rw [show oz_wd T len t p = false from h]; exact Bool.noConfusion)
/-- the sort of a bed is read -/
def oz_srt (T : Nat → Nat) (len : Nat) (st : Nat ⊕ Nat) : Nat × (Nat ⊕ Nat) := if oz_isW T len 44 st = true then (0, oz_toW T len 44 st) else if oz_isW T len 45 st = true then (1, oz_toW T len 45 st) else (2, oz_ndW T len 46 st)
theorem oz_srt_le {st : Nat ⊕ Nat} : (oz_srt T len st).1 ≤ 2 := by
  unfold oz_srt
  split
  · exact Nat.zero_le _
  · split
    · show 1 ≤ 2; omega
    · exact Nat.le_refl _
theorem c_readSort {st : Nat ⊕ Nat} (X : oz_CX s T len st) : ∃ u, f_HoltText_readSort s = some (nI (oz_srt T len st).1, u) ∧ oz_CX u T len (oz_srt T len st).2 ∧ oz_fr (fun p => p = 1) s u := by
  obtain ⟨u1, k1, k2, k3⟩ := c_takeWord X 44 (by decide +kernel)
  unfold f_HoltText_readSort oz_srt
  rw [k1, Option.bind_some]
  try dsimp only
  cases c : oz_isW T len 44 st with
  | true => rw [if_pos rfl, if_pos rfl]; exact ⟨u1, rfl, k2, k3⟩
  | false =>
    rw [oz_toW_f c] at k2
    obtain ⟨u2, l1, l2, l3⟩ := c_takeWord k2 45 (by decide +kernel)
    rw [if_neg Bool.noConfusion, if_neg Bool.noConfusion, l1, Option.bind_some]
    try dsimp only
    cases c2 : oz_isW T len 45 st with
    | true => rw [if_pos rfl, if_pos rfl]; exact ⟨u2, rfl, l2, oz_fr_tr k3 l3⟩
    | false =>
      rw [oz_toW_f c2] at l2
      obtain ⟨u3, m1, m2, m3⟩ := c_needWord l2 46 (by decide +kernel)
      rw [if_neg Bool.noConfusion, if_neg Bool.noConfusion, m1, Option.bind_some]
      exact ⟨u3, rfl, m2, oz_fr_tr (oz_fr_tr k3 l3) m3⟩
theorem m_sortWord {st : Nat ⊕ Nat} (X : oz_MX s T len st) : ∃ v u, f_Mod_sortWord s = some (v, u) ∧ oz_MX u T len (oz_srt T len st).2 ∧ oz_fm s u ∧ ∀ p', (oz_srt T len st).2 = Sum.inr p' → v = nI (oz_srt T len st).1 := by
  unfold f_Mod_sortWord
  rw [pl_1, oz_neg1]
  cases st with
  | inl q =>
    rw [if_neg (oz_atl X)]
    exact ⟨_, s, rfl, X, oz_fm_rf, fun p' hp => nomatch hp⟩
  | inr p =>
    rw [if_pos (oz_at X)]
    obtain ⟨w, h1, h2, h3, h4⟩ := m_here X
    have hw := (h4 p rfl).1
    have hp := oz_MX_p X
    have l400 := X.2.1
    rw [h1, Option.bind_some]
    simp only [lf_lt]
    rw [hw]
    have t0 : mj_tx 0 = mj_tx 44 := by decide +kernel
    have t1 : mj_tx 1 = mj_tx 45 := by decide +kernel
    have t2 : mj_tx 2 = mj_tx 46 := by decide +kernel
    have n0 : ¬ (nI 0 = oz_N) := of_eq_false (oz_eqm1 (by omega))
    have n1 : ¬ (nI 1 = oz_N) := of_eq_false (oz_eqm1 (by omega))
    have n2 : ¬ (nI 2 = oz_N) := of_eq_false (oz_eqm1 (by omega))
    obtain ⟨u1, k1, k2, k3, k4⟩ := m_has h2 0 (by decide +kernel) (by decide +kernel)
    rw [oz_wd_cg t0] at k1 k4
    rw [oz_toW_cg t0] at k2
    have e1 : oz_isW T len 44 (Sum.inr p) = oz_wd T len 44 p := rfl
    have e2 : oz_isW T len 45 (Sum.inr p) = oz_wd T len 45 p := rfl
    unfold oz_srt
    rw [k1, Option.bind_some, e1, e2]
    try dsimp only
    cases c : oz_wd T len 44 p with
    | true =>
      rw [if_pos rfl, if_pos rfl, pl_0, if_neg n0]
      exact ⟨_, u1, rfl, k2, oz_fm_tr h3 k3, fun _ _ => rfl⟩
    | false =>
      rw [oz_toW_f (show oz_isW T len 44 (Sum.inr p) = false from c)] at k2
      obtain ⟨u2, l1, l2, l3, l4⟩ := m_has k2 1 (by decide +kernel) (by decide +kernel)
      rw [oz_wd_cg t1] at l1 l4
      rw [oz_toW_cg t1] at l2
      rw [if_neg Bool.noConfusion, if_neg Bool.noConfusion, l1, Option.bind_some]
      try dsimp only
      cases c2 : oz_wd T len 45 p with
      | true =>
        rw [if_pos rfl, if_pos rfl, if_neg n1]
        exact ⟨_, u2, rfl, l2, oz_fm_tr (oz_fm_tr h3 k3) l3, fun _ _ => rfl⟩
      | false =>
        rw [oz_toW_f (show oz_isW T len 45 (Sum.inr p) = false from c2)] at l2
        obtain ⟨u3, m1, m2, m3, m4⟩ := m_has l2 2 (by decide +kernel) (by decide +kernel)
        rw [oz_wd_cg t2] at m1 m4
        rw [oz_toW_cg t2] at m2
        have en : oz_ndW T len 46 (Sum.inr p) = if oz_wd T len 46 p = true then oz_toW T len 46 (Sum.inr p) else oz_flt (Sum.inr p) := rfl
        rw [if_neg Bool.noConfusion, if_neg Bool.noConfusion, m1, Option.bind_some, en]
        try dsimp only
        cases c3 : oz_wd T len 46 p with
        | true =>
          rw [if_pos rfl, if_pos rfl, pl_2, if_neg n2]
          exact ⟨_, u3, rfl, m2, oz_fm_tr (oz_fm_tr (oz_fm_tr h3 k3) l3) m3, fun _ _ => rfl⟩
        | false =>
          rw [oz_toW_f (show oz_isW T len 46 (Sum.inr p) = false from c3)] at m2
          obtain ⟨u4, q1, q2, q3⟩ := m_wrong m2 (q := p) (by omega) (fun p' hp' => by cases hp'; rfl)
          rw [if_neg (show ¬ (false = true) from Bool.noConfusion), if_neg (show ¬ (false = true) from Bool.noConfusion), if_pos trivial, q1]
          exact ⟨_, u4, rfl, q2, oz_fm_tr (oz_fm_tr (oz_fm_tr (oz_fm_tr h3 k3) l3) m3) q3, fun p' hp' => nomatch hp'⟩
end
