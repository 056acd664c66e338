/-! ===== the law's text, the class's reading ===== -/
/-- the code told so far -/
def oz_CE (s : lf_S) (q : Nat) (c : List Nat) : Prop := s.1 q 5 = nI (min 400 c.length) ∧ ∀ i, i < min 400 c.length → s.1 (q + 4) i = nI (c.getD i 0)
theorem oz_gd1 {c d : List Nat} {i : Nat} (h : i < c.length) : (c ++ d).getD i 0 = c.getD i 0 := by
  rw [List.getD_eq_getElem?_getD, List.getElem?_append_left h, List.getD_eq_getElem?_getD]
theorem oz_gd2 {c d : List Nat} {i : Nat} (h : c.length ≤ i) : (c ++ d).getD i 0 = d.getD (i - c.length) 0 := by
  rw [List.getD_eq_getElem?_getD, List.getElem?_append_right h, List.getD_eq_getElem?_getD]
def oz_CP (T : Nat → Nat) (len q : Nat) (f : lf_S → Option lf_S) (P : (Nat ⊕ Nat) → List Nat × (Nat ⊕ Nat)) : Prop := ∀ s c st, oz_CX s T len st → oz_CE s q c → ∃ u, f s = some u ∧ oz_CX u T len (P st).2 ∧ oz_CE u q (c ++ (P st).1) ∧ oz_fr (fun p => p = 1 ∨ p = q ∨ p = q + 4) s u ∧ ∀ j, j ≠ 5 → u.1 q j = s.1 q j
section
variable {s : lf_S} {T : Nat → Nat} {len q : Nat}
theorem c_emit {c : List Nat} {x : Nat} (E : oz_CE s q c) : ∃ u, f_Law_emit q (nI x) s = some u ∧ oz_CE u q (c ++ [x]) ∧ oz_fr (fun p => p = q ∨ p = q + 4) s u ∧ ∀ j, j ≠ 5 → u.1 q j = s.1 q j := by
  obtain ⟨e1, e2⟩ := E
  unfold f_Law_emit
  rw [e1, pl_400]
  have ln : (c ++ [x]).length = c.length + 1 := by rw [List.length_append]; rfl
  by_cases h : c.length < 400
  · rw [oz_ile_f (by omega) (by omega), oz_ck (by omega) (by omega)]
    simp only [lf_lt]
    refine ⟨_, rfl, ⟨?_, fun i hi => ?_⟩, oz_fr_tr (oz_fr_w (by omega)) (oz_fr_w (by omega)), fun j hj => ?_⟩
    · rw [oz_w_s, oz_w_o (by omega), e1, pl_1, nI_add, ln, show min 400 c.length + 1 = min 400 (c.length + 1) by omega]
    · rw [ln] at hi
      rw [oz_w_o (by omega)]
      by_cases ci : i = c.length
      · rw [show min 400 c.length = i by omega, oz_w_s, oz_gd2 (by omega), ci, Nat.sub_self]
        rfl
      · rw [oz_w_n (by omega), oz_gd1 (by omega)]
        exact e2 i (by omega)
    · rw [oz_w_n hj, oz_w_o (by omega)]
  · rw [oz_ile_t (by omega) (by omega)]
    refine ⟨s, rfl, ⟨?_, fun i hi => ?_⟩, oz_fr_rf, fun _ _ => rfl⟩
    · rw [e1, ln, show min 400 c.length = min 400 (c.length + 1) by omega]
    · rw [ln] at hi
      rw [oz_gd1 (by omega)]
      exact e2 i (by omega)
theorem oz_CE_fr {u : lf_S} {c : List Nat} (E : oz_CE s q c) (hq : 10 ≤ q) (f : oz_fr (fun p => p = 1) s u) : oz_CE u q c := ⟨by rw [f.1 q (by omega)]; exact E.1, fun i hi => by rw [f.1 _ (by omega)]; exact E.2 i hi⟩
theorem c_readPart {st : Nat ⊕ Nat} (X : oz_CX s T len st) : ∃ u, f_LawText_readPart s = some (nI (oz_prt T len st).1, u) ∧ oz_CX u T len (oz_prt T len st).2 ∧ oz_fr (fun p => p = 1) s u := by
  unfold f_LawText_readPart oz_prt
  obtain ⟨u0, k0, x0, f0⟩ := c_takeWord X 64 (by decide +kernel)
  by_cases c0 : oz_isW T len 64 st = true
  · rw [c0] at k0
    rw [oz_tkt k0, if_pos c0]
    exact ⟨u0, rfl, x0, f0⟩
  have d0 : oz_isW T len 64 st = false := by cases h : oz_isW T len 64 st with
    | false => rfl
    | true => exact absurd h c0
  rw [d0] at k0
  rw [oz_tkf k0, if_neg c0]
  rw [oz_toW_f d0] at x0
  have g0 := f0
  obtain ⟨u1, k1, x1, f1⟩ := c_takeWord x0 65 (by decide +kernel)
  by_cases c1 : oz_isW T len 65 st = true
  · rw [c1] at k1
    rw [oz_tkt k1, if_pos c1]
    exact ⟨u1, rfl, x1, oz_fr_tr g0 f1⟩
  have d1 : oz_isW T len 65 st = false := by cases h : oz_isW T len 65 st with
    | false => rfl
    | true => exact absurd h c1
  rw [d1] at k1
  rw [oz_tkf k1, if_neg c1]
  rw [oz_toW_f d1] at x1
  have g1 := oz_fr_tr g0 f1
  obtain ⟨u2, k2, x2, f2⟩ := c_takeWord x1 66 (by decide +kernel)
  by_cases c2 : oz_isW T len 66 st = true
  · rw [c2] at k2
    rw [oz_tkt k2, if_pos c2]
    exact ⟨u2, rfl, x2, oz_fr_tr g1 f2⟩
  have d2 : oz_isW T len 66 st = false := by cases h : oz_isW T len 66 st with
    | false => rfl
    | true => exact absurd h c2
  rw [d2] at k2
  rw [oz_tkf k2, if_neg c2]
  rw [oz_toW_f d2] at x2
  have g2 := oz_fr_tr g1 f2
  obtain ⟨u3, k3, x3, f3⟩ := c_takeWord x2 67 (by decide +kernel)
  by_cases c3 : oz_isW T len 67 st = true
  · rw [c3] at k3
    rw [oz_tkt k3, if_pos c3]
    exact ⟨u3, rfl, x3, oz_fr_tr g2 f3⟩
  have d3 : oz_isW T len 67 st = false := by cases h : oz_isW T len 67 st with
    | false => rfl
    | true => exact absurd h c3
  rw [d3] at k3
  rw [oz_tkf k3, if_neg c3]
  rw [oz_toW_f d3] at x3
  have g3 := oz_fr_tr g2 f3
  obtain ⟨u4, k4, x4, f4⟩ := c_takeWord x3 68 (by decide +kernel)
  by_cases c4 : oz_isW T len 68 st = true
  · rw [c4] at k4
    rw [oz_tkt k4, if_pos c4]
    exact ⟨u4, rfl, x4, oz_fr_tr g3 f4⟩
  have d4 : oz_isW T len 68 st = false := by cases h : oz_isW T len 68 st with
    | false => rfl
    | true => exact absurd h c4
  rw [d4] at k4
  rw [oz_tkf k4, if_neg c4]
  rw [oz_toW_f d4] at x4
  have g4 := oz_fr_tr g3 f4
  obtain ⟨u5, k5, x5, f5⟩ := c_takeWord x4 69 (by decide +kernel)
  by_cases c5 : oz_isW T len 69 st = true
  · rw [c5] at k5
    rw [oz_tkt k5, if_pos c5]
    exact ⟨u5, rfl, x5, oz_fr_tr g4 f5⟩
  have d5 : oz_isW T len 69 st = false := by cases h : oz_isW T len 69 st with
    | false => rfl
    | true => exact absurd h c5
  rw [d5] at k5
  rw [oz_tkf k5, if_neg c5]
  rw [oz_toW_f d5] at x5
  have g5 := oz_fr_tr g4 f5
  obtain ⟨u6, k6, x6, f6⟩ := c_takeWord x5 70 (by decide +kernel)
  by_cases c6 : oz_isW T len 70 st = true
  · rw [c6] at k6
    rw [oz_tkt k6, if_pos c6]
    exact ⟨u6, rfl, x6, oz_fr_tr g5 f6⟩
  have d6 : oz_isW T len 70 st = false := by cases h : oz_isW T len 70 st with
    | false => rfl
    | true => exact absurd h c6
  rw [d6] at k6
  rw [oz_tkf k6, if_neg c6]
  rw [oz_toW_f d6] at x6
  have g6 := oz_fr_tr g5 f6
  obtain ⟨v, l1, l2, l3⟩ := c_takeNumber x6 (lo := 0) (hi := nI 999) (by omega)
  try dsimp only
  rw [pl_0, pl_999, l1, Option.bind_some]
  exact ⟨v, rfl, l2, oz_fr_tr g6 l3⟩
theorem oz_cat {c d : List Nat} {x : Nat} : c ++ (d ++ [x]) = (c ++ d) ++ [x] := (List.append_assoc c d [x]).symm
theorem oz_isG0 {c : Nat} {st : Nat ⊕ Nat} (h : oz_mu len st = 0) (hl : oz_lkp len st) : oz_isG T len c st = false := by
  cases st with
  | inl p => rfl
  | inr p =>
    have h' : len - p = 0 := h
    exact decide_eq_false (by omega)
theorem oz_isW0 {t : Nat} {st : Nat ⊕ Nat} (ht : 0 < (mj_tx t).length) (h : oz_mu len st = 0) : oz_isW T len t st = false := by
  cases hz : oz_isW T len t st with
  | false => rfl
  | true =>
    have := oz_mu_W hz ht
    omega
theorem oz_toG_f {c : Nat} {st : Nat ⊕ Nat} (h : oz_isG T len c st = false) : oz_toG T len c st = st := by
  cases st with
  | inl q => rfl
  | inr p =>
    have h' := of_decide_eq_false h
    exact if_neg h'
theorem oz_md1 {P : Nat → Prop} {x y : lf_S} (hP : P 1) (h : oz_fr (fun p => p = 1) x y) : oz_fr P x y := oz_fr_mono h (fun p hp => by rw [hp]; exact hP)
theorem c_smL (hq : 10 ≤ q) : ∀ k i (s : lf_S) c st fuel, oz_CX s T len st → oz_CE s q c → oz_mu len st + i ≤ 400 → oz_mu len st < k → k < fuel → ∃ u, f_LawText_readSum_10 q fuel (nI i) s = some u ∧ oz_CX u T len (oz_smL T len k st).2 ∧ oz_CE u q (c ++ (oz_smL T len k st).1) ∧ oz_fr (fun p => p = 1 ∨ p = q ∨ p = q + 4) s u ∧ ∀ j, j ≠ 5 → u.1 q j = s.1 q j := by
  intro k
  induction k with
  | zero => intro i s c st fuel X E h1 h2; omega
  | succ k ih =>
    intro i s c st fuel X E h1 h2 hf
    obtain ⟨fuel, rfl⟩ : ∃ m, fuel = m + 1 := ⟨fuel - 1, by omega⟩
    unfold oz_smL
    rw [f_LawText_readSum_10, pl_400]
    have hl := oz_CX_l X
    by_cases hi : i < 400
    · rw [oz_ile_f hi (by omega), pl_43]
      obtain ⟨u1, k1, k2, k3⟩ := c_takeSign X (c := 43) (by omega)
      by_cases cg : oz_isG T len 43 st = true
      · rw [cg] at k1
        rw [oz_tkt k1, if_pos cg]
        obtain ⟨u2, l1, l2, l3⟩ := c_readPart k2
        have f12 := oz_fr_tr k3 l3
        obtain ⟨u3, m1, m2, m3, m4⟩ := c_emit (x := (oz_prt T len (oz_toG T len 43 st)).1) (oz_CE_fr E hq f12)
        obtain ⟨u4, n1, n2, n3, n4⟩ := c_emit (x := 1011) m2
        have X4 : oz_CX u4 T len (oz_prt T len (oz_toG T len 43 st)).2 := oz_CX_fr (oz_CX_fr l2 (m3.1 1 (by omega)) (m3.1 2 (by omega))) (n3.1 1 (by omega)) (n3.1 2 (by omega))
        have mu1 := oz_mu_G cg
        have mu2 := (oz_ln_prt (T := T) (oz_lk_G cg)).1
        obtain ⟨u, j1, j2, j3, j4, j5⟩ := ih (i + 1) u4 _ _ fuel X4 n2 (by omega) (by omega) (by omega)
        refine ⟨u, ?_, j2, ?_, ?_, fun j hj => ?_⟩
        · try dsimp only
          rw [l1, Option.bind_some]
          try dsimp only
          rw [m1, Option.bind_some, pl_1011, n1, Option.bind_some]
          simp only [lf_lt, pl_1, nI_add]
          exact j1
        · have e : c ++ [(oz_prt T len (oz_toG T len 43 st)).1] ++ [1011] ++ (oz_smL T len k (oz_prt T len (oz_toG T len 43 st)).2).1 = c ++ ((oz_prt T len (oz_toG T len 43 st)).1 :: 1011 :: (oz_smL T len k (oz_prt T len (oz_toG T len 43 st)).2).1) := by
            rw [List.append_assoc, List.append_assoc]; rfl
          rw [e] at j3
          exact j3
        · exact oz_fr_tr (oz_md1 (by omega) f12) (oz_fr_tr (oz_fr_mono m3 (fun p hp => Or.inr hp)) (oz_fr_tr (oz_fr_mono n3 (fun p hp => Or.inr hp)) j4))
        · rw [j5 j hj, n4 j hj, m4 j hj, f12.1 q (by omega)]
      · have d : oz_isG T len 43 st = false := by
          cases h : oz_isG T len 43 st with
          | false => rfl
          | true => exact absurd h cg
        rw [d] at k1
        rw [oz_tkf k1, if_neg cg]
        rw [oz_toG_f d] at k2
        exact ⟨u1, rfl, k2, by show oz_CE u1 q (c ++ []); rw [List.append_nil]; exact oz_CE_fr E hq k3, oz_md1 (by omega) k3, fun j _ => by rw [k3.1 q (by omega)]⟩
    · rw [oz_ile_t (by omega) (by omega), oz_isG0 (by omega) hl, if_neg Bool.noConfusion]
      exact ⟨s, rfl, X, by show oz_CE s q (c ++ []); rw [List.append_nil]; exact E, oz_fr_rf, fun _ _ => rfl⟩
theorem oz_mu_le {st : Nat ⊕ Nat} (h : len ≤ 400) : oz_mu len st ≤ 400 := by
  cases st with
  | inl q => exact Nat.zero_le _
  | inr p => show len - p ≤ 400; omega
theorem c_readSum (hq : 10 ≤ q) : oz_CP T len q (f_LawText_readSum q) (oz_smP T len) := by
  intro s c st X E
  obtain ⟨u2, l1, l2, l3⟩ := c_readPart X
  obtain ⟨u3, m1, m2, m3, m4⟩ := c_emit (x := (oz_prt T len st).1) (oz_CE_fr E hq l3)
  have X3 : oz_CX u3 T len (oz_prt T len st).2 := oz_CX_fr l2 (m3.1 1 (by omega)) (m3.1 2 (by omega))
  have mu := oz_mu_le (st := (oz_prt T len st).2) X.2.1
  obtain ⟨u, j1, j2, j3, j4, j5⟩ := c_smL hq 401 0 u3 _ _ 5000 X3 m2 (by omega) (by omega) (by omega)
  refine ⟨u, ?_, j2, ?_, ?_, fun j hj => ?_⟩
  · unfold f_LawText_readSum
    rw [l1, Option.bind_some]
    try dsimp only
    rw [m1, Option.bind_some]
    simp only [lf_lt]
    rw [pl_0, j1, Option.bind_some]
  · have e : c ++ [(oz_prt T len st).1] ++ (oz_smL T len 401 (oz_prt T len st).2).1 = c ++ (oz_smP T len st).1 := by
      rw [List.append_assoc]; rfl
    rw [e] at j3
    exact j3
  · exact oz_fr_tr (oz_md1 (by omega) l3) (oz_fr_tr (oz_fr_mono m3 (fun p hp => Or.inr hp)) j4)
  · rw [j5 j hj, m4 j hj, l3.1 q (by omega)]
theorem c_readComparison (hq : 10 ≤ q) : oz_CP T len q (f_LawText_readComparison q) (oz_cmp T len) := by
  intro s c st X E
  obtain ⟨u1, a1, a2, a3, a4, a5⟩ := c_readSum hq s c st X E
  unfold f_LawText_readComparison oz_cmp
  rw [a1, Option.bind_some, pl_60, pl_62, pl_1012, pl_1013]
  obtain ⟨u2, b1, b2, b3⟩ := c_takeSign a2 (c := 60) (by omega)
  have two : ∀ (v w : lf_S) y x, oz_CX v T len (oz_toG T len y (oz_smP T len st).2) → oz_CE v q (c ++ (oz_smP T len st).1) → oz_fr (fun p => p = 1 ∨ p = q ∨ p = q + 4) s v → (∀ j, j ≠ 5 → v.1 q j = s.1 q j) → ∃ u, (f_LawText_readSum q v).bind (fun p7 => (f_Law_emit q (nI x) p7).bind (fun p8 => some p8)) = some u ∧ oz_CX u T len (oz_smP T len (oz_toG T len y (oz_smP T len st).2)).2 ∧ oz_CE u q (c ++ ((oz_smP T len st).1 ++ ((oz_smP T len (oz_toG T len y (oz_smP T len st).2)).1 ++ [x]))) ∧ oz_fr (fun p => p = 1 ∨ p = q ∨ p = q + 4) s u ∧ ∀ j, j ≠ 5 → u.1 q j = s.1 q j := by
    intro v w y x Xv Ev fv jv
    obtain ⟨u3, d1, d2, d3, d4, d5⟩ := c_readSum hq v _ _ Xv Ev
    obtain ⟨u4, e1, e2, e3, e4⟩ := c_emit (x := x) d3
    refine ⟨u4, by rw [d1, Option.bind_some, e1, Option.bind_some], oz_CX_fr d2 (e3.1 1 (by omega)) (e3.1 2 (by omega)), ?_, oz_fr_tr fv (oz_fr_tr d4 (oz_fr_mono e3 (fun p hp => Or.inr hp))), fun j hj => by rw [e4 j hj, d5 j hj, jv j hj]⟩
    have e : c ++ (oz_smP T len st).1 ++ (oz_smP T len (oz_toG T len y (oz_smP T len st).2)).1 ++ [x] = c ++ ((oz_smP T len st).1 ++ ((oz_smP T len (oz_toG T len y (oz_smP T len st).2)).1 ++ [x])) := by
      rw [List.append_assoc, List.append_assoc]
    rw [e] at e2
    exact e2
  by_cases c1 : oz_isG T len 60 (oz_smP T len st).2 = true
  · rw [c1] at b1
    rw [oz_tkt b1, if_pos c1]
    exact two u2 s 60 1012 b2 (oz_CE_fr a3 hq b3) (oz_fr_tr a4 (oz_md1 (by omega) b3)) (fun j hj => by rw [b3.1 q (by omega), a5 j hj])
  · have d1 : oz_isG T len 60 (oz_smP T len st).2 = false := by
      cases h : oz_isG T len 60 (oz_smP T len st).2 with
      | false => rfl
      | true => exact absurd h c1
    rw [d1] at b1
    rw [oz_toG_f d1] at b2
    rw [oz_tkf b1, if_neg c1]
    obtain ⟨u3, g1, g2, g3⟩ := c_takeSign b2 (c := 62) (by omega)
    have f3 := oz_fr_tr b3 g3
    by_cases c2 : oz_isG T len 62 (oz_smP T len st).2 = true
    · rw [c2] at g1
      rw [oz_tkt g1, if_pos c2]
      exact two u3 s 62 1013 g2 (oz_CE_fr a3 hq f3) (oz_fr_tr a4 (oz_md1 (by omega) f3)) (fun j hj => by rw [f3.1 q (by omega), a5 j hj])
    · have d2 : oz_isG T len 62 (oz_smP T len st).2 = false := by
        cases h : oz_isG T len 62 (oz_smP T len st).2 with
        | false => rfl
        | true => exact absurd h c2
      rw [d2] at g1
      rw [oz_toG_f d2] at g2
      rw [oz_tkf g1, if_neg c2]
      obtain ⟨u4, i1, i2, i3⟩ := c_fail g2
      have f4 := oz_fr_tr f3 i3
      try dsimp only
      rw [i1, Option.bind_some]
      exact ⟨u4, rfl, i2, oz_CE_fr a3 hq f4, oz_fr_tr a4 (oz_md1 (by omega) f4), fun j hj => by rw [f4.1 q (by omega), a5 j hj]⟩
/-- the plain conditions, as they stand in the code -/
def oz_pl0 (q : Nat) (s : lf_S) : Option lf_S := (f_Tape_takeWord 61 s).bind (fun p1 => (if p1.1 = true then (f_Law_emit q (1007 : Int32) p1.2).bind (fun p7 => some p7) else (f_Tape_takeWord 62 p1.2).bind (fun p2 => (if p2.1 = true then (f_Law_emit q (1008 : Int32) p2.2).bind (fun p6 => some p6) else (f_Tape_takeWord 63 p2.2).bind (fun p3 => (if p3.1 = true then (f_Law_emit q (1009 : Int32) p3.2).bind (fun p5 => some p5) else (f_LawText_readComparison q p3.2).bind (fun p4 => some p4)))))))
theorem c_pl0 (hq : 10 ≤ q) : oz_CP T len q (oz_pl0 q) (oz_pln T len) := by
  intro s c st X E
  unfold oz_pl0 oz_pln
  rw [pl_1007, pl_1008, pl_1009]
  have em : ∀ (v : lf_S) x t, oz_CX v T len (oz_toW T len t st) → oz_fr (fun p => p = 1) s v → ∃ u, (f_Law_emit q (nI x) v).bind (fun p8 => some p8) = some u ∧ oz_CX u T len (oz_toW T len t st) ∧ oz_CE u q (c ++ [x]) ∧ oz_fr (fun p => p = 1 ∨ p = q ∨ p = q + 4) s u ∧ ∀ j, j ≠ 5 → u.1 q j = s.1 q j := by
    intro v x t Xv fv
    obtain ⟨u4, e1, e2, e3, e4⟩ := c_emit (x := x) (oz_CE_fr E hq fv)
    exact ⟨u4, by rw [e1, Option.bind_some], oz_CX_fr Xv (e3.1 1 (by omega)) (e3.1 2 (by omega)), e2, oz_fr_tr (oz_md1 (by omega) fv) (oz_fr_mono e3 (fun p hp => Or.inr hp)), fun j hj => by rw [e4 j hj, fv.1 q (by omega)]⟩
  obtain ⟨u0, k0, x0, f0⟩ := c_takeWord X 61 (by decide +kernel)
  by_cases c0 : oz_isW T len 61 st = true
  · rw [c0] at k0
    rw [oz_tkt k0, if_pos c0]
    exact em u0 1007 61 x0 (f0)
  have d0 : oz_isW T len 61 st = false := by cases h : oz_isW T len 61 st with
    | false => rfl
    | true => exact absurd h c0
  rw [d0] at k0
  rw [oz_tkf k0, if_neg c0]
  rw [oz_toW_f d0] at x0
  have g0 := f0
  obtain ⟨u1, k1, x1, f1⟩ := c_takeWord x0 62 (by decide +kernel)
  by_cases c1 : oz_isW T len 62 st = true
  · rw [c1] at k1
    rw [oz_tkt k1, if_pos c1]
    exact em u1 1008 62 x1 (oz_fr_tr g0 f1)
  have d1 : oz_isW T len 62 st = false := by cases h : oz_isW T len 62 st with
    | false => rfl
    | true => exact absurd h c1
  rw [d1] at k1
  rw [oz_tkf k1, if_neg c1]
  rw [oz_toW_f d1] at x1
  have g1 := oz_fr_tr g0 f1
  obtain ⟨u2, k2, x2, f2⟩ := c_takeWord x1 63 (by decide +kernel)
  by_cases c2 : oz_isW T len 63 st = true
  · rw [c2] at k2
    rw [oz_tkt k2, if_pos c2]
    exact em u2 1009 63 x2 (oz_fr_tr g1 f2)
  have d2 : oz_isW T len 63 st = false := by cases h : oz_isW T len 63 st with
    | false => rfl
    | true => exact absurd h c2
  rw [d2] at k2
  rw [oz_tkf k2, if_neg c2]
  rw [oz_toW_f d2] at x2
  have g2 := oz_fr_tr g1 f2
  obtain ⟨u, j1, j2, j3, j4, j5⟩ := c_readComparison hq u2 c st x2 (oz_CE_fr E hq g2)
  try dsimp only
  rw [j1, Option.bind_some]
  exact ⟨u, rfl, j2, j3, oz_fr_tr (oz_md1 (by omega) g2) j4, fun j hj => by rw [j5 j hj, g2.1 q (by omega)]⟩
theorem c_readAll8 (hq : 10 ≤ q) {q1 q2 q3 : Nat → Int32 → lf_S → Option lf_S} {d : Int32} {A : (Nat ⊕ Nat) → List Nat × (Nat ⊕ Nat)} (hA : oz_CP T len q (q3 q d) A) (hn : ∀ st, oz_lkp len st → oz_ln len st (A st)) : ∀ k i (s : lf_S) c st fuel, oz_CX s T len st → oz_CE s q c → oz_mu len st + i ≤ 400 → oz_mu len st < k → k < fuel → ∃ u, f_LawText_readAll_8 q1 q2 q3 q d fuel (nI i) s = some u ∧ oz_CX u T len (oz_jnL T len 59 1014 A k st).2 ∧ oz_CE u q (c ++ (oz_jnL T len 59 1014 A k st).1) ∧ oz_fr (fun p => p = 1 ∨ p = q ∨ p = q + 4) s u ∧ ∀ j, j ≠ 5 → u.1 q j = s.1 q j := by
  intro k
  induction k with
  | zero => intro i s c st fuel X E h1 h2; omega
  | succ k ih =>
    intro i s c st fuel X E h1 h2 hf
    obtain ⟨fuel, rfl⟩ : ∃ m, fuel = m + 1 := ⟨fuel - 1, by omega⟩
    unfold oz_jnL
    rw [f_LawText_readAll_8, pl_400]
    by_cases hi : i < 400
    · rw [oz_ile_f hi (by omega)]
      obtain ⟨u1, k1, k2, k3⟩ := c_takeWord X 59 (by decide +kernel)
      by_cases cg : oz_isW T len 59 st = true
      · rw [cg] at k1
        rw [oz_tkt k1, if_pos cg]
        obtain ⟨u3, m1, m2, m3, m4, m5⟩ := hA u1 c _ k2 (oz_CE_fr E hq k3)
        obtain ⟨u4, n1, n2, n3, n4⟩ := c_emit (x := 1014) m3
        have X4 := oz_CX_fr m2 (n3.1 1 (by omega)) (n3.1 2 (by omega))
        have mu1 := oz_mu_W cg (by decide +kernel)
        have mu3 : 1 ≤ (mj_tx 59).length := by decide +kernel
        have mu2 := (hn _ (oz_lk_W cg)).1
        obtain ⟨u, j1, j2, j3, j4, j5⟩ := ih (i + 1) u4 _ _ fuel X4 n2 (by omega) (by omega) (by omega)
        refine ⟨u, ?_, j2, ?_, ?_, fun j hj => ?_⟩
        · try dsimp only
          rw [m1, Option.bind_some, pl_1014, n1, Option.bind_some]
          simp only [lf_lt, pl_1, nI_add]
          exact j1
        · have e : c ++ (A (oz_toW T len 59 st)).1 ++ [1014] ++ (oz_jnL T len 59 1014 A k (A (oz_toW T len 59 st)).2).1 = c ++ ((A (oz_toW T len 59 st)).1 ++ (1014 :: (oz_jnL T len 59 1014 A k (A (oz_toW T len 59 st)).2).1)) := by
            rw [List.append_assoc, List.append_assoc]; rfl
          rw [e] at j3
          exact j3
        · exact oz_fr_tr (oz_md1 (by omega) k3) (oz_fr_tr m4 (oz_fr_tr (oz_fr_mono n3 (fun p hp => Or.inr hp)) j4))
        · rw [j5 j hj, n4 j hj, m5 j hj, k3.1 q (by omega)]
      · have d : oz_isW T len 59 st = false := by
          cases h : oz_isW T len 59 st with
          | false => rfl
          | true => exact absurd h cg
        rw [d] at k1
        rw [oz_tkf k1, if_neg cg]
        rw [oz_toW_f d] at k2
        exact ⟨u1, rfl, k2, by show oz_CE u1 q (c ++ []); rw [List.append_nil]; exact oz_CE_fr E hq k3, oz_md1 (by omega) k3, fun j _ => by rw [k3.1 q (by omega)]⟩
    · rw [oz_ile_t (by omega) (by omega), oz_isW0 (by decide +kernel) (by omega), if_neg Bool.noConfusion]
      exact ⟨s, rfl, X, by show oz_CE s q (c ++ []); rw [List.append_nil]; exact E, oz_fr_rf, fun _ _ => rfl⟩
theorem c_readAll (hq : 10 ≤ q) {q1 q2 q3 : Nat → Int32 → lf_S → Option lf_S} {d : Int32} {A : (Nat ⊕ Nat) → List Nat × (Nat ⊕ Nat)} (hA : oz_CP T len q (q3 q d) A) (hn : ∀ st, oz_lkp len st → oz_ln len st (A st)) : oz_CP T len q (fb_LawText_readAll q1 q2 q3 q d) (oz_jn T len 59 1014 A) := by
  intro s c st X E
  obtain ⟨u3, m1, m2, m3, m4, m5⟩ := hA s c st X E
  have mu := oz_mu_le (st := (A st).2) X.2.1
  obtain ⟨u, j1, j2, j3, j4, j5⟩ := c_readAll8 (q1 := q1) (q2 := q2) (q3 := q3) hq hA hn 401 0 u3 _ _ 5000 m2 m3 (by omega) (by omega) (by omega)
  refine ⟨u, ?_, j2, ?_, oz_fr_tr m4 j4, fun j hj => by rw [j5 j hj, m5 j hj]⟩
  · unfold fb_LawText_readAll
    rw [m1, Option.bind_some]
    simp only [lf_lt]
    rw [pl_0, j1, Option.bind_some]
  · rw [List.append_assoc] at j3
    exact j3
theorem c_readAny8 (hq : 10 ≤ q) {q1 q2 q3 : Nat → Int32 → lf_S → Option lf_S} {d : Int32} {A : (Nat ⊕ Nat) → List Nat × (Nat ⊕ Nat)} (hA : oz_CP T len q (q2 q d) A) (hn : ∀ st, oz_lkp len st → oz_ln len st (A st)) : ∀ k i (s : lf_S) c st fuel, oz_CX s T len st → oz_CE s q c → oz_mu len st + i ≤ 400 → oz_mu len st < k → k < fuel → ∃ u, f_LawText_readAny_8 q1 q2 q3 q d fuel (nI i) s = some u ∧ oz_CX u T len (oz_jnL T len 58 1015 A k st).2 ∧ oz_CE u q (c ++ (oz_jnL T len 58 1015 A k st).1) ∧ oz_fr (fun p => p = 1 ∨ p = q ∨ p = q + 4) s u ∧ ∀ j, j ≠ 5 → u.1 q j = s.1 q j := by
  intro k
  induction k with
  | zero => intro i s c st fuel X E h1 h2; omega
  | succ k ih =>
    intro i s c st fuel X E h1 h2 hf
    obtain ⟨fuel, rfl⟩ : ∃ m, fuel = m + 1 := ⟨fuel - 1, by omega⟩
    unfold oz_jnL
    rw [f_LawText_readAny_8, pl_400]
    by_cases hi : i < 400
    · rw [oz_ile_f hi (by omega)]
      obtain ⟨u1, k1, k2, k3⟩ := c_takeWord X 58 (by decide +kernel)
      by_cases cg : oz_isW T len 58 st = true
      · rw [cg] at k1
        rw [oz_tkt k1, if_pos cg]
        obtain ⟨u3, m1, m2, m3, m4, m5⟩ := hA u1 c _ k2 (oz_CE_fr E hq k3)
        obtain ⟨u4, n1, n2, n3, n4⟩ := c_emit (x := 1015) m3
        have X4 := oz_CX_fr m2 (n3.1 1 (by omega)) (n3.1 2 (by omega))
        have mu1 := oz_mu_W cg (by decide +kernel)
        have mu3 : 1 ≤ (mj_tx 58).length := by decide +kernel
        have mu2 := (hn _ (oz_lk_W cg)).1
        obtain ⟨u, j1, j2, j3, j4, j5⟩ := ih (i + 1) u4 _ _ fuel X4 n2 (by omega) (by omega) (by omega)
        refine ⟨u, ?_, j2, ?_, ?_, fun j hj => ?_⟩
        · try dsimp only
          rw [m1, Option.bind_some, pl_1015, n1, Option.bind_some]
          simp only [lf_lt, pl_1, nI_add]
          exact j1
        · have e : c ++ (A (oz_toW T len 58 st)).1 ++ [1015] ++ (oz_jnL T len 58 1015 A k (A (oz_toW T len 58 st)).2).1 = c ++ ((A (oz_toW T len 58 st)).1 ++ (1015 :: (oz_jnL T len 58 1015 A k (A (oz_toW T len 58 st)).2).1)) := by
            rw [List.append_assoc, List.append_assoc]; rfl
          rw [e] at j3
          exact j3
        · exact oz_fr_tr (oz_md1 (by omega) k3) (oz_fr_tr m4 (oz_fr_tr (oz_fr_mono n3 (fun p hp => Or.inr hp)) j4))
        · rw [j5 j hj, n4 j hj, m5 j hj, k3.1 q (by omega)]
      · have d : oz_isW T len 58 st = false := by
          cases h : oz_isW T len 58 st with
          | false => rfl
          | true => exact absurd h cg
        rw [d] at k1
        rw [oz_tkf k1, if_neg cg]
        rw [oz_toW_f d] at k2
        exact ⟨u1, rfl, k2, by show oz_CE u1 q (c ++ []); rw [List.append_nil]; exact oz_CE_fr E hq k3, oz_md1 (by omega) k3, fun j _ => by rw [k3.1 q (by omega)]⟩
    · rw [oz_ile_t (by omega) (by omega), oz_isW0 (by decide +kernel) (by omega), if_neg Bool.noConfusion]
      exact ⟨s, rfl, X, by show oz_CE s q (c ++ []); rw [List.append_nil]; exact E, oz_fr_rf, fun _ _ => rfl⟩
theorem c_readAny (hq : 10 ≤ q) {q1 q2 q3 : Nat → Int32 → lf_S → Option lf_S} {d : Int32} {A : (Nat ⊕ Nat) → List Nat × (Nat ⊕ Nat)} (hA : oz_CP T len q (q2 q d) A) (hn : ∀ st, oz_lkp len st → oz_ln len st (A st)) : oz_CP T len q (fb_LawText_readAny q1 q2 q3 q d) (oz_jn T len 58 1015 A) := by
  intro s c st X E
  obtain ⟨u3, m1, m2, m3, m4, m5⟩ := hA s c st X E
  have mu := oz_mu_le (st := (A st).2) X.2.1
  obtain ⟨u, j1, j2, j3, j4, j5⟩ := c_readAny8 (q1 := q1) (q2 := q2) (q3 := q3) hq hA hn 401 0 u3 _ _ 5000 m2 m3 (by omega) (by omega) (by omega)
  refine ⟨u, ?_, j2, ?_, oz_fr_tr m4 j4, fun j hj => by rw [j5 j hj, m5 j hj]⟩
  · unfold fb_LawText_readAny
    rw [m1, Option.bind_some]
    simp only [lf_lt]
    rw [pl_0, j1, Option.bind_some]
  · rw [List.append_assoc] at j3
    exact j3
theorem c_readAtom0 (hq : 10 ≤ q) {q1 q2 q3 : Nat → Int32 → lf_S → Option lf_S} : oz_CP T len q (fb_LawText_readAtom q1 q2 q3 q (nI 6)) (oz_atm T len 0) := by
  intro s c st X E
  have e : fb_LawText_readAtom q1 q2 q3 q (nI 6) s = oz_pl0 q s := by
    unfold fb_LawText_readAtom
    have h6 : (6 : Int32) ≤ nI 6 := by decide +kernel
    rw [if_pos h6, if_pos h6]
    rfl
  rw [e]
  exact c_pl0 hq s c st X E
theorem c_readAtom1 (hq : 10 ≤ q) {q1 q2 q3 : Nat → Int32 → lf_S → Option lf_S} {r : Nat} (hr : r + 1 ≤ 6) (h3 : oz_CP T len q (q3 q (nI (6 - r))) (oz_atm T len r)) (h1 : oz_CP T len q (q1 q (nI (6 - r))) (oz_jn T len 58 1015 (oz_jn T len 59 1014 (oz_atm T len r)))) : oz_CP T len q (fb_LawText_readAtom q1 q2 q3 q (nI (6 - (r + 1)))) (oz_atm T len (r + 1)) := by
  intro s c st X E
  have hd : nI (6 - (r + 1)) + nI 1 = nI (6 - r) := by rw [nI_add, show 6 - (r + 1) + 1 = 6 - r by omega]
  unfold fb_LawText_readAtom
  rw [pl_6]
  have nle : ¬ (nI 6 ≤ nI (6 - (r + 1))) := of_eq_false (oz_le_f (by omega) (by omega))
  rw [if_neg nle, pl_40, pl_41, pl_1, hd, pl_1010]
  obtain ⟨u1, a1, a2, a3⟩ := c_takeWord X 60 (by decide +kernel)
  show ∃ u, _ = some u ∧ oz_CX u T len (if oz_isW T len 60 st = true then _ else if oz_isG T len 40 st = true then _ else _ : List Nat × (Nat ⊕ Nat)).2 ∧ oz_CE u q (c ++ (if oz_isW T len 60 st = true then _ else if oz_isG T len 40 st = true then _ else _ : List Nat × (Nat ⊕ Nat)).1) ∧ _
  by_cases c1 : oz_isW T len 60 st = true
  · rw [c1] at a1
    rw [oz_tkt a1, if_pos c1]
    obtain ⟨u2, b1, b2, b3, b4, b5⟩ := h3 u1 c _ a2 (oz_CE_fr E hq a3)
    obtain ⟨u3, d1, d2, d3, d4⟩ := c_emit (x := 1010) b3
    refine ⟨u3, ?_, oz_CX_fr b2 (d3.1 1 (by omega)) (d3.1 2 (by omega)), ?_, oz_fr_tr (oz_md1 (by omega) a3) (oz_fr_tr b4 (oz_fr_mono d3 (fun p hp => Or.inr hp))), fun j hj => by rw [d4 j hj, b5 j hj, a3.1 q (by omega)]⟩
    · try dsimp only
      rw [b1, Option.bind_some, d1, Option.bind_some]
    · rw [List.append_assoc] at d2
      exact d2
  · have e1 : oz_isW T len 60 st = false := by
      cases h : oz_isW T len 60 st with
      | false => rfl
      | true => exact absurd h c1
    rw [e1] at a1
    rw [oz_toW_f e1] at a2
    rw [oz_tkf a1, if_neg c1, if_neg nle]
    obtain ⟨u2, b1, b2, b3⟩ := c_takeSign a2 (c := 40) (by omega)
    have f2 := oz_fr_tr a3 b3
    by_cases c2 : oz_isG T len 40 st = true
    · rw [c2] at b1
      rw [oz_tkt b1, if_pos c2]
      obtain ⟨u3, d1, d2, d3, d4, d5⟩ := h1 u2 c _ b2 (oz_CE_fr E hq f2)
      obtain ⟨u4, g1, g2, g3⟩ := c_takeSign d2 (c := 41) (by omega)
      try dsimp only
      rw [d1, Option.bind_some]
      by_cases c3 : oz_isG T len 41 (oz_jn T len 58 1015 (oz_jn T len 59 1014 (oz_atm T len r)) (oz_toG T len 40 st)).2 = true
      · rw [c3] at g1
        rw [oz_tkt g1, if_pos c3]
        exact ⟨u4, rfl, g2, oz_CE_fr d3 hq g3, oz_fr_tr (oz_md1 (by omega) f2) (oz_fr_tr d4 (oz_md1 (by omega) g3)), fun j hj => by rw [g3.1 q (by omega), d5 j hj, f2.1 q (by omega)]⟩
      · have e3 : oz_isG T len 41 (oz_jn T len 58 1015 (oz_jn T len 59 1014 (oz_atm T len r)) (oz_toG T len 40 st)).2 = false := by
          cases h : oz_isG T len 41 (oz_jn T len 58 1015 (oz_jn T len 59 1014 (oz_atm T len r)) (oz_toG T len 40 st)).2 with
          | false => rfl
          | true => exact absurd h c3
        rw [e3] at g1
        rw [oz_toG_f e3] at g2
        obtain ⟨u5, i1, i2, i3⟩ := c_fail g2
        have f5 := oz_fr_tr g3 i3
        rw [oz_tkf g1, if_neg c3]
        try dsimp only
        rw [i1, Option.bind_some]
        exact ⟨u5, rfl, i2, oz_CE_fr d3 hq f5, oz_fr_tr (oz_md1 (by omega) f2) (oz_fr_tr d4 (oz_md1 (by omega) f5)), fun j hj => by rw [f5.1 q (by omega), d5 j hj, f2.1 q (by omega)]⟩
    · have e2 : oz_isG T len 40 st = false := by
        cases h : oz_isG T len 40 st with
        | false => rfl
        | true => exact absurd h c2
      rw [e2] at b1
      rw [oz_toG_f e2] at b2
      rw [oz_tkf b1, if_neg c2]
      obtain ⟨u, j1, j2, j3, j4, j5⟩ := c_pl0 hq u2 c st b2 (oz_CE_fr E hq f2)
      exact ⟨u, j1, j2, j3, oz_fr_tr (oz_md1 (by omega) f2) j4, fun j hj => by rw [j5 j hj, f2.1 q (by omega)]⟩
/-- the three, by depth -/
theorem c_readG (hq : 10 ≤ q) : ∀ r, r ≤ 6 → (∀ n, 3 * r + 1 ≤ n → oz_CP T len q ((F_LawText_readAny n).2.2 q (nI (6 - r))) (oz_atm T len r)) ∧ (∀ n, 3 * r + 2 ≤ n → oz_CP T len q ((F_LawText_readAny n).2.1 q (nI (6 - r))) (oz_jn T len 59 1014 (oz_atm T len r))) ∧ (∀ n, 3 * r + 3 ≤ n → oz_CP T len q ((F_LawText_readAny n).1 q (nI (6 - r))) (oz_jn T len 58 1015 (oz_jn T len 59 1014 (oz_atm T len r)))) := by
  intro r
  have up : ∀ r, (∀ n, 3 * r + 1 ≤ n → oz_CP T len q ((F_LawText_readAny n).2.2 q (nI (6 - r))) (oz_atm T len r)) → (∀ n, 3 * r + 2 ≤ n → oz_CP T len q ((F_LawText_readAny n).2.1 q (nI (6 - r))) (oz_jn T len 59 1014 (oz_atm T len r))) ∧ (∀ n, 3 * r + 3 ≤ n → oz_CP T len q ((F_LawText_readAny n).1 q (nI (6 - r))) (oz_jn T len 58 1015 (oz_jn T len 59 1014 (oz_atm T len r)))) := by
    intro r h
    have a : ∀ n, 3 * r + 2 ≤ n → oz_CP T len q ((F_LawText_readAny n).2.1 q (nI (6 - r))) (oz_jn T len 59 1014 (oz_atm T len r)) := by
      intro n hn
      obtain ⟨n, rfl⟩ : ∃ m, n = m + 1 := ⟨n - 1, by omega⟩
      exact c_readAll (q1 := (F_LawText_readAny n).1) (q2 := (F_LawText_readAny n).2.1) (q3 := (F_LawText_readAny n).2.2) hq (h n (by omega)) (oz_ln_atm r)
    refine ⟨a, fun n hn => ?_⟩
    obtain ⟨n, rfl⟩ : ∃ m, n = m + 1 := ⟨n - 1, by omega⟩
    exact c_readAny (q1 := (F_LawText_readAny n).1) (q2 := (F_LawText_readAny n).2.1) (q3 := (F_LawText_readAny n).2.2) hq (a n (by omega)) (fun st hl => oz_ln_jn (by decide +kernel) (oz_ln_atm r) hl)
  induction r with
  | zero =>
    intro _
    have z : ∀ n, 3 * 0 + 1 ≤ n → oz_CP T len q ((F_LawText_readAny n).2.2 q (nI (6 - 0))) (oz_atm T len 0) := by
      intro n hn
      obtain ⟨n, rfl⟩ : ∃ m, n = m + 1 := ⟨n - 1, by omega⟩
      exact c_readAtom0 (q1 := (F_LawText_readAny n).1) (q2 := (F_LawText_readAny n).2.1) (q3 := (F_LawText_readAny n).2.2) hq
    exact ⟨z, up 0 z⟩
  | succ r ih =>
    intro hr
    obtain ⟨i1, i2, i3⟩ := ih (by omega)
    have z : ∀ n, 3 * (r + 1) + 1 ≤ n → oz_CP T len q ((F_LawText_readAny n).2.2 q (nI (6 - (r + 1)))) (oz_atm T len (r + 1)) := by
      intro n hn
      obtain ⟨n, rfl⟩ : ∃ m, n = m + 1 := ⟨n - 1, by omega⟩
      exact c_readAtom1 (q2 := (F_LawText_readAny n).2.1) hq hr (i1 n (by omega)) (i3 n (by omega))
    exact ⟨z, up (r + 1) z⟩
/-- a condition -/
def oz_cnd (T : Nat → Nat) (len : Nat) (st : Nat ⊕ Nat) : List Nat × (Nat ⊕ Nat) := oz_jn T len 58 1015 (oz_jn T len 59 1014 (oz_atm T len 6)) st
theorem oz_ln_cnd {st : Nat ⊕ Nat} (hl : oz_lkp len st) : oz_ln len st (oz_cnd T len st) := oz_ln_jn (by decide +kernel) (fun st hl => oz_ln_jn (by decide +kernel) (oz_ln_atm 6) hl) hl
theorem c_readAny0 (hq : 10 ≤ q) : oz_CP T len q (f_LawText_readAny q (0 : Int32)) (oz_cnd T len) := (c_readG hq 6 (by omega)).2.2 64 (by omega)
end
