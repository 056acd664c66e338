/-! ===== the team: tops, the model's table ===== -/
def oz_M0 (a : Nat → Nat) : Nat → Bool := fun o => (oz_opens a).testBit o
def oz_zn (_ : Nat) : Option Nat := none
def oz_team (a : Nat → Nat) (x : Int32) : Nat ⊕ Int32 := if x = oz_N then Sum.inr (nI (oz_tp a (a 5) 0 (oz_M0 a)).1) else if 0 ≤ x.toInt ∧ x.toInt < a 5 then Sum.inr (oz_en (oz_tA a (a 5) 0 (oz_M0 a) oz_zn x.toInt.toNat)) else Sum.inl 3
theorem oz_isix (x : Int32) (n : Nat) (hn : n < 1000) : (∃ f, f < n ∧ x = nI f ∧ x.toInt = (f : Int)) ∨ ((x < nI 0 ∨ (¬ x < nI 0 ∧ nI n - nI 1 < x)) ∧ ¬ (0 ≤ x.toInt ∧ x.toInt < n)) := by
  by_cases c : 0 ≤ x.toInt ∧ x.toInt < n
  · left
    have e : x.toInt = ((x.toInt.toNat : Nat) : Int) := by omega
    exact ⟨x.toInt.toNat, by omega, oz_toInt_eq e (by omega), e⟩
  · right
    refine ⟨?_, c⟩
    rw [Int32.lt_iff_toInt_lt, Int32.lt_iff_toInt_lt, pk_sub_toInt (by omega) (by omega), oz_ti (by omega)]
    omega
theorem oz_dn_le {n k : Nat} {s : lf_S} (h : k < n) (hn : n < 1000) : f_Main_needIndex (nI k) (nI 0) (nI n - nI 1) s = some (Sum.inr (), s) := by
  rw [oz_sub (by omega)]
  exact c_needIndex_t (by omega) (by omega) (by omega)
section
variable {s : lf_S} {a : Nat → Nat}
theorem c_bestTeam (V : oz_V a) (C : oz_C s 10 a) : ∃ t, f_Ways_bestTeam 10 s = some (nI (oz_tp a (a 5) 0 (oz_M0 a)).1, t) ∧ oz_fr (fun p => 3 ≤ p ∧ p ≤ 7) s t ∧ ∀ j, j < a 5 → t.1 5 j = oz_en (oz_tA a (a 5) 0 (oz_M0 a) oz_zn j) := by
  have hv := oz_v0 V
  unfold oz_V0 at hv
  obtain ⟨t1, k1, g1, g2, g3, g4⟩ := c_beginTrying (s := s)
  obtain ⟨t, k2, f2, _, _, T⟩ := c_tryTeam V C (a 5) 0 (oz_M0 a) (oz_opens a) oz_zn 0 none t1 64 (by omega) (by omega) (oz_opens_lt V) (fun o _ => rfl) (fun p hp => g3.1 p (by omega)) (fun j hj => absurd hj (by omega)) g1 (by omega) (fun z hz => by cases hz)
  rw [Nat.zero_add] at T
  have T1 := T.1 rfl
  refine ⟨t, ?_, oz_fr_tr (oz_fr_mono g3 (by omega)) (oz_fr_mono f2 (by omega)), T1.2⟩
  unfold f_Ways_bestTeam f_Ways_tryTeam
  rw [k1, Option.bind_some, g3.1 (10 + 18) (by omega), o_o C.2.2.2.2.1, pl_0, k2, Option.bind_some, T1.1]
theorem c_team (V : oz_V a) (C : oz_C s 10 a) (x : Int32) : ∃ t, f_Main_team x s = some (oz_team a x, t) ∧ oz_fr (fun p => 3 ≤ p ∧ p ≤ 7) s t := by
  have hv := oz_v0 V
  unfold oz_V0 at hv
  obtain ⟨t, k1, k2, k3⟩ := c_bestTeam V C
  unfold f_Main_team oz_team
  rw [pl_1, oz_neg1]
  by_cases c : x = oz_N
  · simp only [if_pos c, k1, Option.bind_some, lf_lt]
    exact ⟨t, rfl, k2⟩
  · simp only [if_neg c]
    unfold f_Main_needHand
    rw [h_0 C.2.2.2.1, pl_0, pl_1]
    rcases oz_isix x (a 5) (by omega) with ⟨k, h1, h2, h3⟩ | ⟨h1, h2⟩
    · rw [h3, if_pos (by omega), h2, oz_dn_le h1 (by omega)]
      unfold lf_tb
      simp only [Option.bind_some, k1, lf_lt]
      rw [oz_ck (by omega) (by omega), k3 k h1]
      exact ⟨t, rfl, k2⟩
    · rw [if_neg h2, c_needIndex_f h1]
      exact ⟨s, rfl, oz_fr_rf⟩
/-- which choice is kept -/
theorem oz_tp_ch {m h : Nat} {M : Nat → Bool} : ∀ N, (oz_it (oz_tps (oz_tv a h) (fun o => (oz_tp a m (h + 1) (oz_wo M o)).1) M) N ((oz_tp a m (h + 1) M).1, none) = ((oz_tp a m (h + 1) M).1, none) ∧ ∀ o', o' < N → M o' = true → oz_tv a h o' + (oz_tp a m (h + 1) (oz_wo M o')).1 ≤ (oz_tp a m (h + 1) M).1) ∨ ∃ o w, oz_it (oz_tps (oz_tv a h) (fun o => (oz_tp a m (h + 1) (oz_wo M o)).1) M) N ((oz_tp a m (h + 1) M).1, none) = (w, some o) ∧ o < N ∧ M o = true ∧ w = oz_tv a h o + (oz_tp a m (h + 1) (oz_wo M o)).1 ∧ (oz_tp a m (h + 1) M).1 < w ∧ (∀ o', o' < o → M o' = true → oz_tv a h o' + (oz_tp a m (h + 1) (oz_wo M o')).1 < w) ∧ ∀ o', o' < N → M o' = true → oz_tv a h o' + (oz_tp a m (h + 1) (oz_wo M o')).1 ≤ w := by
  intro N
  induction N with
  | zero => exact Or.inl ⟨rfl, fun o' ho' => absurd ho' (by omega)⟩
  | succ N ih =>
    have es : oz_it (oz_tps (oz_tv a h) (fun o => (oz_tp a m (h + 1) (oz_wo M o)).1) M) (N + 1) ((oz_tp a m (h + 1) M).1, none) = oz_tps (oz_tv a h) (fun o => (oz_tp a m (h + 1) (oz_wo M o)).1) M N (oz_it (oz_tps (oz_tv a h) (fun o => (oz_tp a m (h + 1) (oz_wo M o)).1) M) N ((oz_tp a m (h + 1) M).1, none)) := rfl
    rw [es]
    generalize oz_it (oz_tps (oz_tv a h) (fun o => (oz_tp a m (h + 1) (oz_wo M o)).1) M) N ((oz_tp a m (h + 1) M).1, none) = P at *
    have ed : oz_tps (oz_tv a h) (fun o => (oz_tp a m (h + 1) (oz_wo M o)).1) M N P = if M N = true ∧ P.1 < oz_tv a h N + (oz_tp a m (h + 1) (oz_wo M N)).1 then (oz_tv a h N + (oz_tp a m (h + 1) (oz_wo M N)).1, some N) else P := rfl
    rw [ed]
    by_cases c : M N = true ∧ P.1 < oz_tv a h N + (oz_tp a m (h + 1) (oz_wo M N)).1
    · rw [if_pos c]
      right
      refine ⟨N, _, rfl, by omega, c.1, rfl, ?_, ?_, ?_⟩
      · rcases ih with ⟨e, _⟩ | ⟨o, w, e, _, _, _, e2, _, _⟩
        · rw [e] at c; exact c.2
        · rw [e] at c; have := c.2; exact Nat.lt_trans e2 this
      · intro o' ho' hM
        rcases ih with ⟨e, e1⟩ | ⟨o, w, e, _, _, _, e2, _, e3⟩
        · rw [e] at c; exact Nat.lt_of_le_of_lt (e1 o' ho' hM) c.2
        · rw [e] at c; exact Nat.lt_of_le_of_lt (e3 o' ho' hM) c.2
      · intro o' ho' hM
        by_cases co : o' = N
        · rw [co]; exact Nat.le_refl _
        · rcases ih with ⟨e, e1⟩ | ⟨o, w, e, _, _, _, e2, _, e3⟩
          · rw [e] at c; exact Nat.le_of_lt (Nat.lt_of_le_of_lt (e1 o' (by omega) hM) c.2)
          · rw [e] at c; exact Nat.le_of_lt (Nat.lt_of_le_of_lt (e3 o' (by omega) hM) c.2)
    · rw [if_neg c]
      rcases ih with ⟨e, e1⟩ | ⟨o, w, e, e0, eM, ew, e2, e4, e3⟩
      · left
        refine ⟨e, fun o' ho' hM => ?_⟩
        by_cases co : o' = N
        · rw [co] at hM ⊢
          have := fun z => c ⟨hM, z⟩
          rw [e] at this
          exact Nat.le_of_not_lt this
        · exact e1 o' (by omega) hM
      · right
        refine ⟨o, w, e, by omega, eM, ew, e2, e4, fun o' ho' hM => ?_⟩
        by_cases co : o' = N
        · rw [co] at hM ⊢
          have := fun z => c ⟨hM, z⟩
          rw [e] at this
          exact Nat.le_of_not_lt this
        · exact e3 o' (by omega) hM
/-- behind h nothing is changed -/
theorem oz_tA_lo : ∀ m h M A j, j < h → oz_tA a m h M A j = A j := by
  intro m
  induction m with
  | zero => intro h M A j _; rfl
  | succ m ih =>
    intro h M A j hj
    unfold oz_tA
    rw [ih _ _ _ j (by omega), oz_uo_n (by omega)]
def oz_Mx (a : Nat → Nat) (set : Nat) : Nat → Bool := fun o => oz_M0 a o && !set.testBit o
theorem oz_Mx_0 : oz_Mx a 0 = oz_M0 a := by
  funext o
  unfold oz_Mx
  rw [Nat.zero_testBit]
  show (_ && true) = _
  rw [Bool.and_true]
theorem oz_Mx_wo {set o : Nat} : oz_wo (oz_Mx a set) o = oz_Mx a (set ||| 2 ^ o) := by
  funext y
  unfold oz_wo oz_Mx
  rw [Nat.testBit_or, Nat.testBit_two_pow]
  by_cases c : y = o
  · rw [c]; simp
  · have c2 : ¬ o = y := fun z => c z.symm
    simp [c, c2]
theorem oz_Mx_in {set o : Nat} (ho : o < a 6) : oz_Mx a set o = (oz_opn a o && !set.testBit o) := by
  unfold oz_Mx oz_M0
  rw [oz_opens_bit ho]
theorem m_worksBy (V : oz_V a) {h o : Nat} (hh : h < a 5) (ho : o < a 6) : f_Mod_worksBy (nI h) (nI o) (oz_md s a) = some (nI (oz_tv a h o)) := by
  have hv := oz_v0 V
  unfold oz_V0 at hv
  have h4 := oz_v4 V ho
  unfold oz_V4 at h4
  unfold f_Mod_worksBy
  rw [m_skill (by omega), Option.bind_some, pl_0, m_ofOrder (by omega) (by omega), Option.bind_some, pl_3, m_ofBasket (by omega) (by omega), Option.bind_some, pk_mul]
  rfl
def oz_TT (x : lf_S) (a : Nat → Nat) (h0 : Nat) : Prop := ∀ h set, h0 ≤ h → h ≤ a 5 → set < 64 → x.1 398 (64 * h + set) = nI (oz_tp a (a 5 - h) h (oz_Mx a set)).1
theorem oz_or_lt {set o : Nat} (hs : set < 64) (ho : o < 6) : set ||| 2 ^ o < 64 := Nat.or_lt_two_pow (n := 6) hs (Nat.pow_lt_pow_right (by omega) ho)
theorem m_teams70 (V : oz_V a) {x : lf_S} {m h set : Nat} (hm : h + (m + 1) = a 5) (hs : set < 64) (TT : oz_TT x a (h + 1)) : f_Mod_allTeams_70 (nI h) (nI set) 5000 (nI (oz_tp a m (h + 1) (oz_Mx a set)).1) (nI 0) (oz_md x a) = some (nI (oz_tp a (m + 1) h (oz_Mx a set)).1, oz_md x a) := by
  have hv := oz_v0 V
  unfold oz_V0 at hv
  exact (oz_forI (N := a 6) (fun o (P : Nat × Option Nat) => P.1 ≤ 891 * (m + 1)) (fun f o P => f_Mod_allTeams_70 (nI h) (nI set) f (nI P.1) (nI o) (oz_md x a)) (oz_tps (oz_tv a h) (fun o => (oz_tp a m (h + 1) (oz_wo (oz_Mx a set) o)).1) (oz_Mx a set)) (fun P => (nI P.1, oz_md x a)) ((oz_tp a m (h + 1) (oz_Mx a set)).1, none) (by
      have := oz_tp_le V m (h + 1) (oz_Mx a set) (by omega)
      show (oz_tp a m (h + 1) (oz_Mx a set)).1 ≤ _
      omega) (by
      intro o P ho hP
      have h1 := oz_tp_le V m (h + 1) (oz_wo (oz_Mx a set) o) (by omega)
      have h2 := oz_tv_le V (show h < a 5 by omega) ho
      unfold oz_tps
      split
      · show oz_tv a h o + (oz_tp a m (h + 1) (oz_wo (oz_Mx a set) o)).1 ≤ 891 * (m + 1)
        omega
      · exact hP) (by
      intro f P hP
      rw [f_Mod_allTeams_70, pl_6, oz_ck (by omega) (by omega), oz_md_r, oz_ile_t (by omega) (by omega)]) (by
      intro f o P ho hP
      have h1 := oz_tp_le V m (h + 1) (oz_wo (oz_Mx a set) o) (by omega)
      have h2 := oz_tv_le V (show h < a 5 by omega) ho
      have h4 := oz_v4 V ho
      unfold oz_V4 at h4
      rw [f_Mod_allTeams_70, pl_6, oz_ck (by omega) (by omega), oz_md_r, oz_ile_f ho (by omega), m_isOf (by omega) (by omega), Option.bind_some]
      cases cb : set.testBit o with
      | true =>
        have e : oz_Mx a set o = false := by rw [oz_Mx_in ho, cb]; simp
        rw [if_pos rfl]
        unfold oz_tps
        rw [e, if_neg (fun z => Bool.noConfusion z.1)]
        simp only [lf_lt, pl_1, nI_add]
      | false =>
        rw [if_neg Bool.noConfusion, pl_2, m_ofOrder (by omega) (by omega), Option.bind_some]
        by_cases co : oz_ord a o 2 = 1
        · have e : oz_Mx a set o = true := by rw [oz_Mx_in ho, cb]; unfold oz_opn; rw [co]; rfl
          have tt := TT (h + 1) (set ||| 2 ^ o) (by omega) (by omega) (oz_or_lt hs (by omega))
          rw [show a 5 - (h + 1) = m by omega, ← oz_Mx_wo] at tt
          have hor := oz_or_lt hs (show o < 6 by omega)
          rw [if_pos (by rw [co]; rfl), m_worksBy V (by omega) ho, Option.bind_some, pl_64, pl_31, pl_1, oz_shl1 (by omega), oz_bvor (by omega) (Nat.lt_of_lt_of_le (Nat.pow_lt_pow_right (by omega) (show o < 6 by omega)) (by omega)), pk_mul, nI_add, nI_add, oz_ck (by omega) (by omega), oz_md_o (by omega), show 64 * h + 64 + (set ||| 2 ^ o) = 64 * (h + 1) + (set ||| 2 ^ o) by omega, tt, nI_add, m_greater (by omega) (by omega), Option.bind_some]
          unfold oz_tps
          simp only [lf_lt, nI_add]
          by_cases c : P.1 < oz_tv a h o + (oz_tp a m (h + 1) (oz_wo (oz_Mx a set) o)).1
          · rw [if_pos ⟨e, c⟩, show max P.1 (oz_tv a h o + (oz_tp a m (h + 1) (oz_wo (oz_Mx a set) o)).1) = oz_tv a h o + (oz_tp a m (h + 1) (oz_wo (oz_Mx a set) o)).1 by omega]
          · rw [if_neg (fun z => c z.2), show max P.1 (oz_tv a h o + (oz_tp a m (h + 1) (oz_wo (oz_Mx a set) o)).1) = P.1 by omega]
        · have e : oz_Mx a set o = false := by
            rw [oz_Mx_in ho]
            have : oz_opn a o = false := by unfold oz_opn; simpa using co
            rw [this]; rfl
          rw [if_neg (by rw [pl_1, oz_eq (by omega) (by omega)]; exact co)]
          unfold oz_tps
          rw [e, if_neg (fun z => Bool.noConfusion z.1)]
          simp only [lf_lt, pl_1, nI_add]) 5000 (by omega)).1
end
