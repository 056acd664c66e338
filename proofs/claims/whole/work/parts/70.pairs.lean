/-! ===== beds in pairs: the class's search ===== -/
def oz_pv (a : Nat → Nat) (i j : Nat) : Nat := oz_bed a i 2 + oz_bed a j 2
def oz_pM (a : Nat → Nat) (i : Nat) (F : Nat → Bool) : Nat → Bool := fun j => F i && (decide (i < j) && (F j && !(oz_bed a i 0 == oz_bed a j 0)))
def oz_pp (a : Nat → Nat) : Nat → Nat → (Nat → Bool) → Nat × Option Nat
  | 0, _, _ => (0, none)
  | m + 1, i, F => oz_it (oz_tps (oz_pv a i) (fun j => (oz_pp a m (i + 1) (oz_wo F j)).1) (oz_pM a i F)) (a 3) ((oz_pp a m (i + 1) F).1, none)
def oz_pu (A : Nat → Option Nat) (i : Nat) : Option Nat → Nat → Option Nat
  | none => A
  | some j => oz_uo (oz_uo A i (some j)) j (some i)
def oz_pA (a : Nat → Nat) : Nat → Nat → (Nat → Bool) → (Nat → Option Nat) → Nat → Option Nat
  | 0, _, _, A => A
  | m + 1, i, F, A => oz_pA a m (i + 1) (oz_wc F (oz_pp a (m + 1) i F).2) (oz_pu A i (oz_pp a (m + 1) i F).2)
theorem oz_tps_f {val W : Nat → Nat} {M : Nat → Bool} {o : Nat} {P : Nat × Option Nat} (h : M o = false) : oz_tps val W M o P = P := if_neg (by rw [h]; exact fun z => Bool.noConfusion z.1)
theorem oz_tps_it {val W : Nat → Nat} {M : Nat → Bool} {P : Nat × Option Nat} : ∀ n, (∀ o, o < n → M o = false) → oz_it (oz_tps val W M) n P = P := by
  intro n
  induction n with
  | zero => intro _; rfl
  | succ n ih =>
    intro h
    show oz_tps val W M n (oz_it (oz_tps val W M) n P) = P
    rw [ih (fun o ho => h o (by omega)), oz_tps_f (h n (by omega))]
theorem oz_pM_i {a : Nat → Nat} {i j : Nat} {F : Nat → Bool} (h : j ≤ i) : oz_pM a i F j = false := by
  unfold oz_pM
  rw [decide_eq_false (by omega), Bool.false_and, Bool.and_false]
theorem oz_pM_n {a : Nat → Nat} {i j : Nat} {F : Nat → Bool} (h : F i = false) : oz_pM a i F j = false := by
  unfold oz_pM
  rw [h, Bool.false_and]
theorem oz_pM_j {a : Nat → Nat} {i j : Nat} {F : Nat → Bool} (h : oz_pM a i F j = true) : F i = true ∧ i < j ∧ F j = true ∧ oz_bed a i 0 ≠ oz_bed a j 0 := by
  unfold oz_pM at h
  rw [Bool.and_eq_true, Bool.and_eq_true, Bool.and_eq_true] at h
  refine ⟨h.1, of_decide_eq_true h.2.1, h.2.2.1, ?_⟩
  have := h.2.2.2
  simpa using this
theorem oz_pv_le {a : Nat → Nat} (V : oz_V a) {i j : Nat} (hi : i < a 3) (hj : j < a 3) : oz_pv a i j ≤ 198 := by
  have h1 := oz_v1 V hi
  have h2 := oz_v1 V hj
  unfold oz_V1 at h1 h2
  unfold oz_pv
  omega
theorem oz_pp_le {a : Nat → Nat} (V : oz_V a) : ∀ m i F, i + m = a 3 → (oz_pp a m i F).1 ≤ 198 * m := by
  intro m
  induction m with
  | zero => intro i F _; exact Nat.le_refl _
  | succ m ih =>
    intro i F hm
    unfold oz_pp
    refine oz_it_P (fun x : Nat × Option Nat => x.1 ≤ 198 * (m + 1)) ?_ (a 3) (fun j x hj hx => ?_)
    · have := ih (i + 1) F (by omega)
      show (oz_pp a m (i + 1) F).1 ≤ _
      omega
    · have h1 := ih (i + 1) (oz_wo F j) (by omega)
      have h2 := oz_pv_le V (show i < a 3 by omega) hj
      unfold oz_tps
      split
      · show oz_pv a i j + (oz_pp a m (i + 1) (oz_wo F j)).1 ≤ 198 * (m + 1)
        omega
      · exact hx
section
variable {s0 : lf_S} {a : Nat → Nat}
theorem c_tryPairs (V : oz_V a) (C : oz_C s0 10 a) : ∀ m i F A v (b : Option Nat) (s : lf_S) fuel, i + m = a 3 → m < fuel → (∀ y, i ≤ y → y < a 3 → (A y).isNone = F y) → (∀ p, 10 ≤ p → s.1 p = s0.1 p) → (∀ j, j < a 3 → s.1 6 j = oz_en (A j)) → (∀ j k, A j = some k → k < 100) → s.1 3 5 = oz_en b → v ≤ 198 * i → (∀ z, b = some z → z ≤ 10000) →
    ∃ t, F_Ways_tryPairs fuel (10 + 1) (nI i) (nI v) s = some t ∧ oz_fr (fun p => p = 3 ∨ p = 5 ∨ p = 6) s t ∧ (∀ j, j < a 3 → t.1 6 j = s.1 6 j) ∧ (∀ j, j ≠ 5 → t.1 3 j = s.1 3 j) ∧ oz_TM s t (a 3) b (v + (oz_pp a m i F).1) (oz_pA a m i F A) := by
  have hv := oz_v0 V
  unfold oz_V0 at hv
  intro m
  induction m with
  | zero =>
    intro i F A v b s fuel hm hf hF E h6 hA hb hvv hb1
    obtain ⟨fuel, rfl⟩ : ∃ m, fuel = m + 1 := ⟨fuel - 1, by omega⟩
    obtain rfl : i = a 3 := by omega
    unfold F_Ways_tryPairs fb_Ways_tryPairs
    rw [E (10 + 1) (by omega), b_0 C.2.1, oz_ilt_f (by omega) (by omega), hb]
    obtain ⟨t, k1, k2, k3, k4, k5⟩ := c_keepTried (s := s) (x := nI v)
    have e0 : v + (oz_pp a 0 (a 3) F).1 = v := rfl
    rw [e0]
    cases c : oz_btb b v with
    | true =>
      refine ⟨t, ?_, oz_fr_mono k4 (by omega), fun j hj => by rw [k4.1 6 (by omega)], k5, fun _ => ⟨k2, fun j hj => by rw [k3 j (by omega)]; exact h6 j hj⟩, fun z => by rw [c] at z; exact Bool.noConfusion z⟩
      rw [k1, if_neg (show ¬ nI v ≤ oz_en b from ?_)]
      · rfl
      · cases b with
        | none => exact of_eq_false (oz_lem1 (by omega))
        | some z =>
          have := hb1 z rfl
          exact of_eq_false (oz_le_f (of_decide_eq_true c) (by omega))
    | false =>
      refine ⟨s, ?_, oz_fr_rf, fun _ _ => rfl, fun _ _ => rfl, fun z => by rw [c] at z; exact Bool.noConfusion z, fun _ => ⟨rfl, rfl⟩⟩
      cases b with
      | none => exact Bool.noConfusion c
      | some z =>
        have := hb1 z rfl
        have cc := of_decide_eq_false c
        exact if_pos (of_eq_true (oz_le_t (by omega) (by omega)))
  | succ m ih =>
    intro i F A v b s fuel hm hf hF E h6 hA hb hvv hb1
    obtain ⟨fuel, rfl⟩ : ∃ m, fuel = m + 1 := ⟨fuel - 1, by omega⟩
    have w0 := oz_pp_le V m (i + 1) F (by omega)
    obtain ⟨t1, k1, f1, g1, g2, g3⟩ := ih (i + 1) F A v b s fuel (by omega) (by omega) (fun y h1 h2 => hF y (by omega) h2) E h6 hA hb (by omega) hb1
    have hFi := hF i (by omega) (by omega)
    have e6 : t1.1 6 i = oz_en (A i) := (g1 i (by omega)).trans (h6 i (by omega))
    have epp : oz_pp a (m + 1) i F = oz_it (oz_tps (oz_pv a i) (fun j => (oz_pp a m (i + 1) (oz_wo F j)).1) (oz_pM a i F)) (a 3) ((oz_pp a m (i + 1) F).1, none) := rfl
    have epA : oz_pA a (m + 1) i F A = oz_pA a m (i + 1) (oz_wc F (oz_pp a (m + 1) i F).2) (oz_pu A i (oz_pp a (m + 1) i F).2) := rfl
    rw [epA, epp]
    unfold F_Ways_tryPairs fb_Ways_tryPairs
    rw [E (10 + 1) (by omega), b_0 C.2.1, oz_ilt_t (by omega) (by omega)]
    simp only [lf_lt, pl_1, nI_add, k1, Option.bind_some]
    rw [oz_ck (by omega) (by omega), e6, oz_neg1]
    cases cA : A i with
    | some k =>
      have hk := hA i k cA
      rw [cA] at hFi
      have hFi' : F i = false := hFi.symm
      rw [oz_tps_it (a 3) (fun o _ => oz_pM_n hFi')]
      refine ⟨t1, if_neg (of_eq_false (oz_eqm1 (by omega))), f1, g1, g2, g3⟩
    | none =>
      rw [cA] at hFi
      have hFi' : F i = true := hFi.symm
      rw [if_pos (show oz_en none = oz_N from rfl)]
      have start := oz_tps_it (val := oz_pv a i) (W := fun j => (oz_pp a m (i + 1) (oz_wo F j)).1) (M := oz_pM a i F) (P := ((oz_pp a m (i + 1) F).1, none)) (i + 1) (fun o ho => oz_pM_i (by omega))
      obtain ⟨t, l1, l2⟩ := oz_forE (N := a 3) (fun j (x : lf_S) => i + 1 ≤ j ∧ oz_fr (fun p => p = 3 ∨ p = 5 ∨ p = 6) s x ∧ (∀ j, j < a 3 → x.1 6 j = s.1 6 j) ∧ (∀ j, j ≠ 5 → x.1 3 j = s.1 3 j) ∧ (oz_it (oz_tps (oz_pv a i) (fun j => (oz_pp a m (i + 1) (oz_wo F j)).1) (oz_pM a i F)) j ((oz_pp a m (i + 1) F).1, none)).1 ≤ 198 * (m + 1) ∧ oz_TM s x (a 3) b (v + (oz_it (oz_tps (oz_pv a i) (fun j => (oz_pp a m (i + 1) (oz_wo F j)).1) (oz_pM a i F)) j ((oz_pp a m (i + 1) F).1, none)).1) (oz_pA a m (i + 1) (oz_wc F (oz_it (oz_tps (oz_pv a i) (fun j => (oz_pp a m (i + 1) (oz_wo F j)).1) (oz_pM a i F)) j ((oz_pp a m (i + 1) F).1, none)).2) (oz_pu A i (oz_it (oz_tps (oz_pv a i) (fun j => (oz_pp a m (i + 1) (oz_wo F j)).1) (oz_pM a i F)) j ((oz_pp a m (i + 1) F).1, none)).2))) (fun f j x => f_Ways_tryPairs_47 (F_Ways_tryPairs fuel) (10 + 1) (nI i) (nI v) f (nI j) x) (fun x => x) (by
        intro f x hx
        rw [f_Ways_tryPairs_47, hx.2.1.1 (10 + 1) (by omega), E (10 + 1) (by omega), b_0 C.2.1, oz_ile_t (by omega) (by omega)]) (by
        intro f j x hj hx
        obtain ⟨x0, x1, x2, x3, x4, x5⟩ := hx
        have Ex : ∀ p, 10 ≤ p → x.1 p = s0.1 p := fun p hp => (x1.1 p (by omega)).trans (E p hp)
        have es : oz_it (oz_tps (oz_pv a i) (fun j => (oz_pp a m (i + 1) (oz_wo F j)).1) (oz_pM a i F)) (j + 1) ((oz_pp a m (i + 1) F).1, none) = oz_tps (oz_pv a i) (fun j => (oz_pp a m (i + 1) (oz_wo F j)).1) (oz_pM a i F) j (oz_it (oz_tps (oz_pv a i) (fun j => (oz_pp a m (i + 1) (oz_wo F j)).1) (oz_pM a i F)) j ((oz_pp a m (i + 1) F).1, none)) := rfl
        rw [es]
        generalize oz_it (oz_tps (oz_pv a i) (fun j => (oz_pp a m (i + 1) (oz_wo F j)).1) (oz_pM a i F)) j ((oz_pp a m (i + 1) F).1, none) = P at *
        have hFj := hF j (by omega) hj
        have x6j : x.1 6 j = oz_en (A j) := (x2 j hj).trans (h6 j hj)
        have bi := oz_v1 V (show i < a 3 by omega)
        have bj := oz_v1 V hj
        unfold oz_V1 at bi bj
        have skip : oz_pM a i F j = false → ∃ y, (i + 1 ≤ j + 1 ∧ oz_fr (fun p => p = 3 ∨ p = 5 ∨ p = 6) s y ∧ (∀ j, j < a 3 → y.1 6 j = s.1 6 j) ∧ (∀ j, j ≠ 5 → y.1 3 j = s.1 3 j) ∧ (oz_tps (oz_pv a i) (fun j => (oz_pp a m (i + 1) (oz_wo F j)).1) (oz_pM a i F) j P).1 ≤ 198 * (m + 1) ∧ oz_TM s y (a 3) b (v + (oz_tps (oz_pv a i) (fun j => (oz_pp a m (i + 1) (oz_wo F j)).1) (oz_pM a i F) j P).1) (oz_pA a m (i + 1) (oz_wc F (oz_tps (oz_pv a i) (fun j => (oz_pp a m (i + 1) (oz_wo F j)).1) (oz_pM a i F) j P).2) (oz_pu A i (oz_tps (oz_pv a i) (fun j => (oz_pp a m (i + 1) (oz_wo F j)).1) (oz_pM a i F) j P).2))) ∧ y = x := by
          intro z
          rw [oz_tps_f z]
          exact ⟨x, ⟨by omega, x1, x2, x3, x4, x5⟩, rfl⟩
        cases cj : A j with
        | some k =>
          have hk := hA j k cj
          rw [cj] at hFj x6j
          have hFj' : F j = false := hFj.symm
          obtain ⟨y, hy, rfl⟩ := skip (by unfold oz_pM; rw [hFj', Bool.false_and, Bool.and_false, Bool.and_false])
          refine ⟨y, hy, ?_⟩
          rw [f_Ways_tryPairs_47, Ex (10 + 1) (by omega), b_0 C.2.1, oz_ile_f hj (by omega), oz_ck (by omega) (by omega), x6j, pl_1, oz_neg1, if_neg (show ¬ oz_en (some k) = oz_N from of_eq_false (oz_eqm1 (by omega)))]
          simp only [lf_lt, nI_add]
        | none =>
          rw [cj] at hFj x6j
          have hFj' : F j = true := hFj.symm
          by_cases ck : oz_bed a i 0 = oz_bed a j 0
          · obtain ⟨y, hy, rfl⟩ := skip (by unfold oz_pM; rw [ck]; simp)
            refine ⟨y, hy, ?_⟩
            rw [f_Ways_tryPairs_47, Ex (10 + 1) (by omega), b_0 C.2.1, oz_ile_f hj (by omega), oz_ck (by omega) (by omega), x6j, pl_1, oz_neg1, if_pos (show oz_en none = oz_N from rfl), oz_ck (by omega) (by omega), oz_ck (by omega) (by omega), Ex (10 + 1 + 1) (by omega), b_1 C.2.1 (by omega), b_1 C.2.1 hj, if_pos (by rw [ck])]
            simp only [lf_lt, nI_add]
          · have cM : oz_pM a i F j = true := by
              unfold oz_pM
              rw [hFi', hFj', decide_eq_true (show i < j by omega)]
              simpa using ck
            have wj := oz_pp_le V m (i + 1) (oz_wo F j) (by omega)
            have hval := oz_pv_le V (show i < a 3 by omega) hj
            obtain ⟨t2, k2, f2, q1, q2, q3⟩ := ih (i + 1) (oz_wo F j) (oz_pu A i (some j)) (v + oz_pv a i j) (oz_nb b (v + P.1)) (lf_w (lf_w x 6 i (nI j)) 6 j (nI i)) fuel (by omega) (by omega) (by
              intro y h1 h2
              show (oz_uo (oz_uo A i (some j)) j (some i) y).isNone = (F y && !(y == j))
              by_cases cy : y = j
              · rw [cy, oz_uo_s]; simp
              · rw [oz_uo_n cy, oz_uo_n (by omega), hF y (by omega) h2]
                have : (y == j) = false := by simpa using cy
                rw [this]; simp) (fun p hp => by rw [oz_w_o (by omega), oz_w_o (by omega)]; exact Ex p hp) (by
              intro y hy
              show _ = oz_en (oz_uo (oz_uo A i (some j)) j (some i) y)
              by_cases cy : y = j
              · rw [cy, oz_w_s, oz_uo_s]; rfl
              · rw [oz_w_n cy, oz_uo_n cy]
                by_cases ci : y = i
                · rw [ci, oz_w_s, oz_uo_s]; rfl
                · rw [oz_w_n ci, oz_uo_n ci, x2 y hy]; exact h6 y hy) (by
              intro y k hk
              change oz_uo (oz_uo A i (some j)) j (some i) y = some k at hk
              by_cases cy : y = j
              · rw [cy, oz_uo_s] at hk; cases hk; omega
              · rw [oz_uo_n cy] at hk
                by_cases ci : y = i
                · rw [ci, oz_uo_s] at hk; cases hk; omega
                · rw [oz_uo_n ci] at hk; exact hA y k hk) (by rw [oz_w_o (by omega), oz_w_o (by omega)]; exact oz_TM_b x5 hb) (by omega) (by
              intro z hz
              rcases oz_nb_t z hz with e | e
              · omega
              · exact hb1 z e)
            have q3' : oz_TM x (lf_w (lf_w t2 6 i oz_N) 6 j oz_N) (a 3) (oz_nb b (v + P.1)) (v + oz_pv a i j + (oz_pp a m (i + 1) (oz_wo F j)).1) (oz_pA a m (i + 1) (oz_wo F j) (oz_pu A i (some j))) := by
              refine ⟨fun z => ?_, fun z => ?_⟩
              · rw [oz_w_o (by omega), oz_w_o (by omega), oz_w_o (by omega), oz_w_o (by omega)]; exact q3.1 z
              · have := q3.2 z
                rw [oz_w_o (by omega), oz_w_o (by omega), oz_w_o (by omega), oz_w_o (by omega)] at this
                rw [oz_w_o (by omega), oz_w_o (by omega), oz_w_o (by omega), oz_w_o (by omega)]; exact this
            refine ⟨lf_w (lf_w t2 6 i oz_N) 6 j oz_N, ⟨by omega, oz_fr_tr (oz_fr_tr (oz_fr_tr x1 (oz_fr_w (by omega))) (oz_fr_w (by omega))) (oz_fr_tr f2 (oz_fr_tr (oz_fr_w (by omega)) (oz_fr_w (by omega)))), fun y hy => ?_, fun y hy => ?_, ?_, ?_⟩, ?_⟩
            · rw [h6 y hy]
              by_cases cy : y = j
              · rw [cy, oz_w_s, cj]; rfl
              · rw [oz_w_n cy]
                by_cases ci : y = i
                · rw [ci, oz_w_s, cA]; rfl
                · rw [oz_w_n ci, q1 y hy, oz_w_n cy, oz_w_n ci, x2 y hy]; exact h6 y hy
            · rw [oz_w_o (by omega), oz_w_o (by omega), q2 y hy, oz_w_o (by omega), oz_w_o (by omega)]; exact x3 y hy
            · unfold oz_tps
              split
              · show oz_pv a i j + (oz_pp a m (i + 1) (oz_wo F j)).1 ≤ 198 * (m + 1)
                omega
              · exact x4
            · have T3 := oz_TM_tr x5 q3'
              unfold oz_tps
              by_cases c : P.1 < oz_pv a i j + (oz_pp a m (i + 1) (oz_wo F j)).1
              · rw [if_pos ⟨cM, c⟩]
                rw [if_pos (by omega), if_pos (by omega)] at T3
                show oz_TM s _ (a 3) b (v + (oz_pv a i j + (oz_pp a m (i + 1) (oz_wo F j)).1)) (oz_pA a m (i + 1) (oz_wo F j) (oz_pu A i (some j)))
                rw [← Nat.add_assoc]
                exact T3
              · rw [if_neg (fun z => c z.2)]
                rw [if_neg (by omega), if_neg (by omega)] at T3
                exact T3
            · rw [f_Ways_tryPairs_47, Ex (10 + 1) (by omega), b_0 C.2.1, oz_ile_f hj (by omega), oz_ck (by omega) (by omega), x6j, pl_1, oz_neg1, if_pos (show oz_en none = oz_N from rfl), oz_ck (by omega) (by omega), oz_ck (by omega) (by omega), Ex (10 + 1 + 1) (by omega), b_1 C.2.1 (by omega), b_1 C.2.1 hj, if_neg (by rw [oz_eq (by omega) (by omega)]; exact ck), oz_ck (by omega) (by omega)]
              simp only [lf_lt]
              rw [oz_ck (by omega) (by omega), oz_ck (by omega) (by omega), oz_ck (by omega) (by omega), oz_w_o (by omega), oz_w_o (by omega), Ex (10 + 1 + 3) (by omega), b_3 C.2.1 (by omega), b_3 C.2.1 hj, nI_add, nI_add, nI_add, show v + oz_bed a i 2 + oz_bed a j 2 = v + oz_pv a i j from Nat.add_assoc _ _ _, k2, Option.bind_some, oz_ck (by omega) (by omega), oz_ck (by omega) (by omega), nI_add]) (a 3 - (i + 1)) (i + 1) 5000 t1 (by omega) (by omega) ⟨by omega, f1, g1, g2, by
              rw [start]
              show (oz_pp a m (i + 1) F).1 ≤ _
              omega, by rw [start]; exact g3⟩
      refine ⟨t, ?_, l2.2.1, l2.2.2.1, l2.2.2.2.1, l2.2.2.2.2.2⟩
      rw [l1, Option.bind_some]
def oz_all1 (_ : Nat) : Bool := true
def oz_pairs (a : Nat → Nat) (x : Int32) : Nat ⊕ Int32 := if x = oz_N then Sum.inr (nI (oz_pp a (a 3) 0 oz_all1).1) else if 0 ≤ x.toInt ∧ x.toInt < a 3 then Sum.inr (oz_en (oz_pA a (a 3) 0 oz_all1 oz_zn x.toInt.toNat)) else Sum.inl 3
theorem c_bestPairs {s : lf_S} (V : oz_V a) (C : oz_C s 10 a) : ∃ t, f_Ways_bestPairs (10 + 1) s = some (nI (oz_pp a (a 3) 0 oz_all1).1, t) ∧ oz_fr (fun p => 3 ≤ p ∧ p ≤ 7) s t ∧ ∀ j, j < a 3 → t.1 5 j = oz_en (oz_pA a (a 3) 0 oz_all1 oz_zn j) := by
  have hv := oz_v0 V
  unfold oz_V0 at hv
  obtain ⟨t1, k1, g1, g2, g3, g4⟩ := c_beginTrying (s := s)
  obtain ⟨t, k2, f2, _, _, T⟩ := c_tryPairs V C (a 3) 0 oz_all1 oz_zn 0 none t1 64 (by omega) (by omega) (fun y _ _ => rfl) (fun p hp => g3.1 p (by omega)) (fun j hj => (g2 j (by omega)).2) (fun j k hk => nomatch hk) g1 (by omega) (fun z hz => by cases hz)
  rw [Nat.zero_add] at T
  have T1 := T.1 rfl
  refine ⟨t, ?_, oz_fr_tr (oz_fr_mono g3 (by omega)) (oz_fr_mono f2 (by omega)), T1.2⟩
  unfold f_Ways_bestPairs f_Ways_tryPairs
  rw [k1, Option.bind_some, pl_0, k2, Option.bind_some, T1.1]
theorem c_pairs {s : lf_S} (V : oz_V a) (C : oz_C s 10 a) (x : Int32) : ∃ t, f_Main_pairs x s = some (oz_pairs a x, t) ∧ oz_fr (fun p => 3 ≤ p ∧ p ≤ 7) s t := by
  have hv := oz_v0 V
  unfold oz_V0 at hv
  obtain ⟨t, k1, k2, k3⟩ := c_bestPairs V C
  unfold f_Main_pairs oz_pairs
  rw [pl_1, oz_neg1]
  by_cases c : x = oz_N
  · simp only [if_pos c, k1, Option.bind_some, lf_lt]
    exact ⟨t, rfl, k2⟩
  · simp only [if_neg c]
    unfold f_Main_needBed
    rw [b_0 C.2.1, pl_0, pl_1]
    rcases oz_isix x (a 3) (by omega) with ⟨k, h1, h2, h3⟩ | ⟨h1, h2⟩
    · rw [h3, if_pos (by omega), h2, oz_dn_le h1 (by omega)]
      unfold lf_tb
      simp only [Option.bind_some, k1, lf_lt]
      rw [oz_ck (by omega) (by omega), k3 k h1]
      exact ⟨t, rfl, k2⟩
    · rw [if_neg h2, c_needIndex_f h1]
      exact ⟨s, rfl, oz_fr_rf⟩
end
