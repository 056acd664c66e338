/-! ===== the team: the model's table filled, and read ===== -/
/-- one below j -/
def oz_dw : Nat → Int32
  | 0 => oz_N
  | j + 1 => nI j
theorem oz_dw_0 : nI 0 + oz_N = oz_N := by decide +kernel
theorem oz_dw_a {j : Nat} : nI j + oz_N = oz_dw j := by
  cases j with
  | zero => exact oz_dw_0
  | succ j => rw [oz_addm1 (by omega)]; rfl
theorem oz_dw_s {j : Nat} : nI j - nI 1 = oz_dw j := by
  cases j with
  | zero => decide +kernel
  | succ j => rw [oz_sub (by omega)]; rfl
theorem oz_dw_lt : (oz_dw 0 < nI 0) = True := eq_true (by decide +kernel)
theorem oz_nlt {j : Nat} (h : j < 2147483648) : (nI j < nI 0) = False := oz_lt_f (by omega) h
section
variable {s : lf_S} {a : Nat → Nat}
theorem m_teams46 (V : oz_V a) {x : lf_S} {m h : Nat} (hm : h + (m + 1) = a 5) (TT : oz_TT x a (h + 1)) : ∃ t, f_Mod_allTeams_46 (nI h) 5000 (nI 0) (oz_md x a) = some (oz_md t a) ∧ (oz_TT t a h ∧ oz_fr (fun p => p = 398) x t) := by
  have hv := oz_v0 V
  unfold oz_V0 at hv
  obtain ⟨t, k1, k2, k3, k4⟩ := oz_forE (N := 64) (fun set (y : lf_S) => oz_TT y a (h + 1) ∧ (∀ z, z < set → y.1 398 (64 * h + z) = nI (oz_tp a (m + 1) h (oz_Mx a z)).1) ∧ oz_fr (fun p => p = 398) x y) (fun f set y => f_Mod_allTeams_46 (nI h) f (nI set) (oz_md y a)) (fun y => oz_md y a) (by
      intro f y hy
      rw [f_Mod_allTeams_46, pl_64, oz_ile_t (by omega) (by omega)]) (by
      intro f set y hs hy
      obtain ⟨y1, y2, y3⟩ := hy
      have tt := y1 (h + 1) set (by omega) (by omega) hs
      rw [show a 5 - (h + 1) = m by omega] at tt
      refine ⟨lf_w y 398 (64 * h + set) (nI (oz_tp a (m + 1) h (oz_Mx a set)).1), ⟨fun g z h1 h2 h3 => ?_, fun z hz => ?_, oz_fr_tr y3 (oz_fr_w rfl)⟩, ?_⟩
      · rw [oz_w_n (by omega)]; exact y1 g z h1 h2 h3
      · by_cases c : z = set
        · rw [c]; exact oz_w_s
        · rw [oz_w_n (by omega)]; exact y2 z (by omega)
      · rw [f_Mod_allTeams_46, pl_64, oz_ile_f hs (by omega), pk_mul, nI_add, nI_add, oz_ck (by omega) (by omega), oz_md_o (by omega), show 64 * h + 64 + set = 64 * (h + 1) + set by omega, tt]
        simp only [lf_lt, pl_0]
        rw [m_teams70 V hm hs y1, Option.bind_some, nI_add, oz_ck (by omega) (by omega)]
        simp only [pl_1, nI_add]
        rw [oz_md_wo (by omega)]) 64 0 5000 x (by omega) (by omega) ⟨TT, fun z hz => absurd hz (by omega), oz_fr_rf⟩
  refine ⟨t, k1, fun g z h1 h2 h3 => ?_, k4⟩
  by_cases c : g = h
  · rw [c, show a 5 - h = m + 1 by omega]; exact k3 z h3
  · exact k2 g z (by omega) h2 h3
theorem m_teams40 (V : oz_V a) : ∀ j fuel x, j ≤ a 5 → j < fuel → oz_TT x a j → ∃ t, f_Mod_allTeams_40 fuel (oz_dw j) (oz_md x a) = some (oz_md t a) ∧ oz_TT t a 0 ∧ oz_fr (fun p => p = 398) x t := by
  have hv := oz_v0 V
  unfold oz_V0 at hv
  intro j
  induction j with
  | zero =>
    intro fuel x h1 h2 TT
    obtain ⟨fuel, rfl⟩ : ∃ m, fuel = m + 1 := ⟨fuel - 1, by omega⟩
    refine ⟨x, ?_, TT, oz_fr_rf⟩
    rw [f_Mod_allTeams_40, pl_0, if_pos (of_eq_true oz_dw_lt)]
  | succ j ih =>
    intro fuel x h1 h2 TT
    obtain ⟨fuel, rfl⟩ : ∃ m, fuel = m + 1 := ⟨fuel - 1, by omega⟩
    obtain ⟨t, k1, k2, k3⟩ := m_teams46 V (m := a 5 - (j + 1)) (h := j) (by omega) TT
    obtain ⟨u, l1, l2, l3⟩ := ih fuel t (by omega) (by omega) k2
    refine ⟨u, ?_, l2, oz_fr_tr k3 l3⟩
    rw [f_Mod_allTeams_40, pl_0, show oz_dw (j + 1) = nI j from rfl, if_neg (of_eq_false (oz_nlt (by omega)))]
    simp only [lf_lt]
    rw [k1, Option.bind_some, pl_1, oz_neg1, oz_dw_a, l1]
theorem m_allTeams (V : oz_V a) : ∃ t, f_Mod_allTeams (oz_md s a) = some (oz_md t a) ∧ oz_TT t a 0 ∧ oz_fr (fun p => p = 398) s t := by
  have hv := oz_v0 V
  unfold oz_V0 at hv
  obtain ⟨t1, k1, k2, k3⟩ := oz_forE (N := 64) (fun set (y : lf_S) => (∀ z, z < set → y.1 398 (64 * a 5 + z) = nI 0) ∧ oz_fr (fun p => p = 398) s y) (fun f set y => f_Mod_allTeams_2 f (nI set) (oz_md y a)) (fun y => oz_md y a) (by
      intro f y hy
      rw [f_Mod_allTeams_2, pl_64, oz_ile_t (by omega) (by omega)]) (by
      intro f set y hs hy
      obtain ⟨y1, y2⟩ := hy
      refine ⟨lf_w y 398 (64 * a 5 + set) (nI 0), ⟨fun z hz => ?_, oz_fr_tr y2 (oz_fr_w rfl)⟩, ?_⟩
      · by_cases c : z = set
        · rw [c]; exact oz_w_s
        · rw [oz_w_n (by omega)]; exact y1 z (by omega)
      · rw [f_Mod_allTeams_2, pl_64, oz_ile_f hs (by omega), pl_5, oz_ck (by omega) (by omega), oz_md_r, pk_mul, nI_add, oz_ck (by omega) (by omega)]
        simp only [lf_lt, pl_0, pl_1, nI_add]
        rw [oz_md_wo (by omega)]) 64 0 5000 s (by omega) (by omega) ⟨fun z hz => absurd hz (by omega), oz_fr_rf⟩
  have T1 : oz_TT t1 a (a 5) := by
    intro h set h1 h2 h3
    obtain rfl : h = a 5 := by omega
    rw [k2 set h3, Nat.sub_self]
    rfl
  obtain ⟨u, l1, l2, l3⟩ := m_teams40 V (a 5) 5000 t1 (by omega) (by omega) T1
  refine ⟨u, ?_, l2, oz_fr_tr k3 l3⟩
  unfold f_Mod_allTeams
  simp only [lf_lt, pl_0, k1, Option.bind_some]
  rw [pl_5, oz_ck (by omega) (by omega), oz_md_r, pl_1, oz_dw_s, l1, Option.bind_some]
/-- the last that is found, counting down -/
def oz_lo (Q : Nat → Bool) : Nat → Option Nat → Option Nat
  | 0, x => x
  | j + 1, x => oz_lo Q j (if Q j = true then some j else x)
theorem oz_lo_is {Q : Nat → Bool} {o : Nat} : ∀ j x, Q o = true → (∀ o', o' < o → Q o' = false) → o < j → oz_lo Q j x = some o := by
  have low : ∀ j x, j ≤ o → (∀ o', o' < o → Q o' = false) → oz_lo Q j x = x := by
    intro j
    induction j with
    | zero => intro x _ _; rfl
    | succ j ih =>
      intro x h1 h2
      unfold oz_lo
      rw [h2 j (by omega), if_neg Bool.noConfusion]
      exact ih x (by omega) h2
  intro j
  induction j with
  | zero => intro x _ _ h; exact absurd h (by omega)
  | succ j ih =>
    intro x h1 h2 h3
    unfold oz_lo
    by_cases c : j = o
    · rw [c, if_pos h1]
      exact low o _ (by omega) h2
    · exact ih _ h1 h2 (by omega)
def oz_tq (a : Nat → Nat) (m h set y o : Nat) : Bool := oz_Mx a set o && decide (oz_tv a h o + (oz_tp a m (h + 1) (oz_wo (oz_Mx a set) o)).1 = y)
theorem m_team110 (V : oz_V a) {x : lf_S} {m h set y : Nat} {c1 : Int32} (hm : h + (m + 1) = a 5) (hs : set < 64) (hy : y < 10000) (TT : oz_TT x a 0) : ∀ j fuel c, j ≤ a 6 → j < fuel → f_Mod_team_110 c1 (nI set) (nI h) (nI y) fuel (oz_en c) (oz_dw j) (oz_md x a) = some (oz_en (oz_lo (oz_tq a m h set y) j c), oz_md x a) := by
  have hv := oz_v0 V
  unfold oz_V0 at hv
  intro j
  induction j with
  | zero =>
    intro fuel c h1 h2
    obtain ⟨fuel, rfl⟩ : ∃ m, fuel = m + 1 := ⟨fuel - 1, by omega⟩
    rw [f_Mod_team_110, pl_0, if_pos (of_eq_true oz_dw_lt)]
    rfl
  | succ o ih =>
    intro fuel c h1 h2
    obtain ⟨fuel, rfl⟩ : ∃ m, fuel = m + 1 := ⟨fuel - 1, by omega⟩
    have ho : o < a 6 := by omega
    have w1 := oz_tp_le V m (h + 1) (oz_wo (oz_Mx a set) o) (by omega)
    have w2 := oz_tv_le V (show h < a 5 by omega) ho
    have h4 := oz_v4 V ho
    unfold oz_V4 at h4
    have el : oz_lo (oz_tq a m h set y) (o + 1) c = oz_lo (oz_tq a m h set y) o (if oz_tq a m h set y o = true then some o else c) := rfl
    rw [el, f_Mod_team_110, pl_0, show oz_dw (o + 1) = nI o from rfl, if_neg (of_eq_false (oz_nlt (by omega))), m_isOf (by omega) (by omega), Option.bind_some]
    have er : ∀ c', f_Mod_team_110 c1 (nI set) (nI h) (nI y) fuel (oz_en c') (nI o + oz_N) (oz_md x a) = some (oz_en (oz_lo (oz_tq a m h set y) o c'), oz_md x a) := by
      intro c'
      rw [oz_dw_a]
      exact ih fuel c' (by omega) (by omega)
    cases cb : set.testBit o with
    | true =>
      have e : oz_Mx a set o = false := by rw [oz_Mx_in ho, cb]; simp
      have eq : oz_tq a m h set y o = false := by unfold oz_tq; rw [e, Bool.false_and]
      rw [if_pos rfl, eq, if_neg Bool.noConfusion]
      simp only [lf_lt, pl_1, oz_neg1]
      exact er c
    | false =>
      rw [if_neg Bool.noConfusion, pl_2, m_ofOrder (by omega) (by omega), Option.bind_some]
      by_cases co : oz_ord a o 2 = 1
      · have e : oz_Mx a set o = true := by rw [oz_Mx_in ho, cb]; unfold oz_opn; rw [co]; rfl
        have tt := TT (h + 1) (set ||| 2 ^ o) (by omega) (by omega) (oz_or_lt hs (by omega))
        rw [show a 5 - (h + 1) = m by omega, ← oz_Mx_wo] at tt
        have hor := oz_or_lt hs (show o < 6 by omega)
        rw [if_pos (by rw [co]; rfl), m_worksBy V (by omega) ho, Option.bind_some, pl_64, pl_31, pl_1, oz_shl1 (by omega), oz_bvor (by omega) (Nat.lt_of_lt_of_le (Nat.pow_lt_pow_right (by omega) (show o < 6 by omega)) (by omega)), pk_mul, nI_add, nI_add, oz_ck (by omega) (by omega), oz_md_o (by omega), show 64 * h + 64 + (set ||| 2 ^ o) = 64 * (h + 1) + (set ||| 2 ^ o) by omega, tt, nI_add]
        simp only [lf_lt, oz_neg1]
        by_cases cq : oz_tv a h o + (oz_tp a m (h + 1) (oz_wo (oz_Mx a set) o)).1 = y
        · have eq : oz_tq a m h set y o = true := by unfold oz_tq; rw [e, decide_eq_true cq]; rfl
          rw [if_pos (by rw [cq]), eq, if_pos rfl]
          exact er (some o)
        · have eq : oz_tq a m h set y o = false := by unfold oz_tq; rw [decide_eq_false cq, Bool.and_false]
          rw [if_neg (by rw [oz_eq (by omega) (by omega)]; exact cq), eq, if_neg Bool.noConfusion]
          exact er c
      · have e : oz_Mx a set o = false := by
          rw [oz_Mx_in ho]
          have : oz_opn a o = false := by unfold oz_opn; simpa using co
          rw [this]; rfl
        have eq : oz_tq a m h set y o = false := by unfold oz_tq; rw [e, Bool.false_and]
        rw [if_neg (by rw [pl_1, oz_eq (by omega) (by omega)]; exact co), eq, if_neg Bool.noConfusion]
        simp only [lf_lt, pl_1, oz_neg1]
        exact er c
theorem m_team54 (V : oz_V a) {x : lf_S} {k : Nat} (hk : k < a 5) (TT : oz_TT x a 0) : ∀ r h m set A c fuel, h + r = k + 1 → h + m = a 5 → r < fuel → set < 64 → (r = 0 → c = A k) → (r = 0 → 0 < h) → f_Mod_team_54 (nI k) fuel (nI set) (oz_en c) (nI h) (oz_md x a) = some (oz_en (oz_tA a m h (oz_Mx a set) A k), oz_md x a) := by
  have hv := oz_v0 V
  unfold oz_V0 at hv
  intro r
  induction r with
  | zero =>
    intro h m set A c fuel h1 h2 h3 h4 h5 _
    obtain ⟨fuel, rfl⟩ : ∃ m, fuel = m + 1 := ⟨fuel - 1, by omega⟩
    rw [f_Mod_team_54, oz_ilt_t (by omega) (by omega), oz_tA_lo m h _ A k (by omega), h5 rfl]
  | succ r ih =>
    intro h m set A c fuel h1 h2 h3 h4 _ _
    obtain ⟨fuel, rfl⟩ : ∃ m, fuel = m + 1 := ⟨fuel - 1, by omega⟩
    obtain ⟨m, rfl⟩ : ∃ m', m = m' + 1 := ⟨m - 1, by omega⟩
    have t0 := TT h set (by omega) (by omega) h4
    have t1 := TT (h + 1) set (by omega) (by omega) h4
    rw [show a 5 - h = m + 1 by omega] at t0
    rw [show a 5 - (h + 1) = m by omega] at t1
    have wl := oz_tp_le V (m + 1) h (oz_Mx a set) (by omega)
    have wl1 := oz_tp_le V m (h + 1) (oz_Mx a set) (by omega)
    have eA : oz_tA a (m + 1) h (oz_Mx a set) A = oz_tA a m (h + 1) (oz_wc (oz_Mx a set) (oz_tp a (m + 1) h (oz_Mx a set)).2) (oz_uo A h (oz_tp a (m + 1) h (oz_Mx a set)).2) := rfl
    have ch := oz_tp_ch (a := a) (m := m) (h := h) (M := oz_Mx a set) (a 6)
    have ed : oz_it (oz_tps (oz_tv a h) (fun o => (oz_tp a m (h + 1) (oz_wo (oz_Mx a set) o)).1) (oz_Mx a set)) (a 6) ((oz_tp a m (h + 1) (oz_Mx a set)).1, none) = oz_tp a (m + 1) h (oz_Mx a set) := rfl
    rw [ed] at ch
    rw [eA, f_Mod_team_54, oz_ilt_f (by omega) (by omega), pl_64, pk_mul, nI_add]
    simp only [lf_lt]
    rw [oz_ck (by omega) (by omega), oz_md_o (by omega), t0, nI_add, nI_add, oz_ck (by omega) (by omega), show 64 * h + 64 + set = 64 * (h + 1) + set by omega, t1]
    rcases ch with ⟨e, _⟩ | ⟨o, w, e, e0, eM, ew, e2, e4, _⟩
    · rw [e, if_pos rfl, pl_1, oz_neg1, nI_add]
      exact ih (h + 1) m set (oz_uo A h none) none fuel (by omega) (by omega) (by omega) h4 (fun z => by
        have : k = h := by omega
        rw [this, oz_uo_s]) (fun _ => by omega)
    · have q1 : oz_tq a m h set w o = true := by unfold oz_tq; rw [eM, decide_eq_true ew.symm]; rfl
      have q2 : ∀ o', o' < o → oz_tq a m h set w o' = false := by
        intro o' ho'
        unfold oz_tq
        cases cM : oz_Mx a set o' with
        | false => rfl
        | true =>
          have := e4 o' ho' cM
          rw [decide_eq_false (by omega)]; rfl
      rw [e] at wl ⊢
      have wl' : w ≤ 891 * (m + 1) := wl
      have m110 := m_team110 V (c1 := nI k) (y := w) (by omega) h4 (by omega) TT (m := m) (h := h) (set := set) (a 6) 5000 none (by omega) (by omega)
      rw [oz_lo_is (a 6) none q1 q2 e0] at m110
      rw [if_neg (by rw [oz_eq (by omega) (by omega)]; exact Nat.ne_of_lt e2), pl_6, oz_ck (by omega) (by omega), oz_md_r, pl_1, oz_dw_s, oz_neg1]
      have ez : oz_en none = oz_N := rfl
      rw [ez] at m110
      rw [m110, Option.bind_some]
      have eo : oz_en (some o) = nI o := rfl
      have hor := oz_or_lt h4 (show o < 6 by omega)
      rw [eo, pl_31, oz_shl1 (by omega), oz_bvor (by omega) (Nat.lt_of_lt_of_le (Nat.pow_lt_pow_right (by omega) (show o < 6 by omega)) (by omega)), nI_add]
      have ew2 : oz_wc (oz_Mx a set) (some o) = oz_Mx a (set ||| 2 ^ o) := oz_Mx_wo
      show f_Mod_team_54 (nI k) fuel (nI (set ||| 2 ^ o)) (nI o) (nI (h + 1)) (oz_md x a) = some (oz_en (oz_tA a m (h + 1) (oz_wc (oz_Mx a set) (some o)) (oz_uo A h (some o)) k), oz_md x a)
      rw [ew2]
      exact ih (h + 1) m (set ||| 2 ^ o) (oz_uo A h (some o)) (some o) fuel (by omega) (by omega) (by omega) hor (fun z => by
        have : k = h := by omega
        rw [this, oz_uo_s]) (fun _ => by omega)
theorem m_team (V : oz_V a) (x : Int32) : ∃ t, f_Mod_team x (oz_md s a) = some ((oz_team a x).elim (fun _ => nI 0) id, oz_md t a) ∧ t.1 389 0 = (oz_team a x).elim (fun _ => nI 1) (fun _ => nI 0) ∧ oz_fr (fun p => p = 389 ∨ p = 398) s t ∧ ∀ j, j ≠ 0 → t.1 389 j = s.1 389 j := by
  have hv := oz_v0 V
  unfold oz_V0 at hv
  obtain ⟨t, k1, k2, k3⟩ := m_allTeams (s := lf_w s 389 0 (nI 0)) V
  have fin : t.1 389 0 = nI 0 ∧ oz_fr (fun p => p = 389 ∨ p = 398) s t ∧ ∀ j, j ≠ 0 → t.1 389 j = s.1 389 j := ⟨by rw [k3.1 389 (by omega)]; exact oz_w_s, oz_fr_tr (oz_fr_w (by omega)) (oz_fr_mono k3 (by omega)), fun j hj => by rw [k3.1 389 (by omega)]; exact oz_w_n hj⟩
  unfold f_Mod_team oz_team
  rw [pl_1, oz_neg1]
  by_cases c : x = oz_N
  · simp only [if_pos c, lf_lt, pl_0, oz_md_wo (show 389 ≠ 390 by omega)]
    refine ⟨t, ?_, fin.1, fin.2.1, fin.2.2⟩
    rw [oz_md_o (by omega), oz_w_s, oz_ile_t (by omega) (by omega), k1, Option.bind_some, oz_ck (by omega) (by omega), oz_md_o (by omega)]
    have := k2 0 0 (by omega) (by omega) (by omega)
    rw [Nat.mul_zero, Nat.sub_zero, oz_Mx_0] at this
    rw [show t.1 398 0 = _ from this]
    rfl
  · simp only [if_neg c, lf_lt, pl_0, oz_md_wo (show 389 ≠ 390 by omega)]
    rcases oz_isix x (a 5) (by omega) with ⟨k, h1, h2, h3⟩ | ⟨h1, h2⟩
    · have hf : 0 ≤ ((k : Nat) : Int) ∧ ((k : Nat) : Int) < ((a 5 : Nat) : Int) := by omega
      rw [h3, if_pos hf, h2, m_isHand_t h1 (by omega), Option.bind_some, if_pos rfl, oz_md_o (by omega), oz_w_s, oz_ile_t (by omega) (by omega), k1, Option.bind_some]
      refine ⟨t, ?_, fin.1, fin.2.1, fin.2.2⟩
      have := m_team54 V h1 k2 (k + 1) 0 (a 5) 0 oz_zn none 5000 (by omega) (by omega) (by omega) (by omega) (fun z => by omega) (fun z => by omega)
      rw [oz_Mx_0] at this
      have ez : oz_en none = oz_N := rfl
      rw [ez] at this
      rw [this]
      rfl
    · rw [if_neg h2, m_isHand_f h1, Option.bind_some, if_neg Bool.noConfusion, oz_md_o (by omega), oz_w_s, oz_ile_f (by omega) (by omega)]
      exact ⟨_, rfl, oz_w_s, oz_fr_w (by omega), fun j hj => oz_w_n hj⟩
end
