/-! ===== the law's lines ===== -/
def oz_knd (T : Nat → Nat) (len : Nat) (st : Nat ⊕ Nat) : Nat × (Nat ⊕ Nat) := if oz_isW T len 55 st = true then (0, oz_toW T len 55 st) else if oz_isW T len 56 st = true then (1, oz_toW T len 56 st) else (2, oz_ndW T len 57 st)
def oz_l1 (T : Nat → Nat) (len p : Nat) : Nat ⊕ Nat := oz_nmS T len 0 (nI 99) (oz_knd T len (Sum.inr p)).2
def oz_l2 (T : Nat → Nat) (len p : Nat) : List Nat × (Nat ⊕ Nat) := if oz_isW T len 54 (oz_l1 T len p) = true then oz_cnd T len (oz_toW T len 54 (oz_l1 T len p)) else ([], oz_l1 T len p)
def oz_lln (T : Nat → Nat) (len p : Nat) : Nat × Nat × List Nat := ((oz_knd T len (Sum.inr p)).1, oz_nmV T len 0 (nI 99) (oz_knd T len (Sum.inr p)).2, (oz_l2 T len p).1)
def oz_lrd (T : Nat → Nat) (len : Nat) : Nat → Nat → List (Nat × Nat × List Nat) × (Nat ⊕ Nat)
  | 0, p => ([], Sum.inl p)
  | k + 1, p => match (oz_l2 T len p).2 with
    | Sum.inl q => ([], Sum.inl q)
    | Sum.inr p' => if len ≤ p' then ([oz_lln T len p], Sum.inr p') else if T p' = 59 then (oz_lln T len p :: (oz_lrd T len k (oz_sb T len (p' + 1))).1, (oz_lrd T len k (oz_sb T len (p' + 1))).2) else ([], Sum.inl p')
def oz_lrA (T : Nat → Nat) (len : Nat) : List (Nat × Nat × List Nat) × (Nat ⊕ Nat) := if len ≤ oz_sb T len 0 then ([], Sum.inr (oz_sb T len 0)) else oz_lrd T len 12 (oz_sb T len 0)
theorem oz_lrd_l {T : Nat → Nat} {len k p q : Nat} (h : (oz_l2 T len p).2 = Sum.inl q) : oz_lrd T len (k + 1) p = ([], Sum.inl q) := by
  unfold oz_lrd
  rw [h]
theorem oz_lrd_r {T : Nat → Nat} {len k p p' : Nat} (h : (oz_l2 T len p).2 = Sum.inr p') : oz_lrd T len (k + 1) p = if len ≤ p' then ([oz_lln T len p], Sum.inr p') else if T p' = 59 then (oz_lln T len p :: (oz_lrd T len k (oz_sb T len (p' + 1))).1, (oz_lrd T len k (oz_sb T len (p' + 1))).2) else ([], Sum.inl p') := by
  conv => lhs; unfold oz_lrd
  rw [h]
def oz_fl : List (Nat × Nat × List Nat) → List Nat
  | [] => []
  | x :: L => x.2.2 ++ oz_fl L
theorem oz_fl_app : ∀ (L M : List (Nat × Nat × List Nat)), oz_fl (L ++ M) = oz_fl L ++ oz_fl M := by
  intro L
  induction L with
  | nil => intro M; rfl
  | cons x L ih =>
    intro M
    show x.2.2 ++ oz_fl (L ++ M) = (x.2.2 ++ oz_fl L) ++ oz_fl M
    rw [ih, List.append_assoc]
/-- the lines told so far, in the class's law -/
def oz_CL2 (s : lf_S) (q : Nat) (L : List (Nat × Nat × List Nat)) : Prop := s.1 q 0 = nI L.length ∧ L.length ≤ 12 ∧ oz_CE s q (oz_fl L) ∧ ∀ i, i < L.length → s.1 (q + 1) i = nI (L.getD i (0, 0, [])).1 ∧ s.1 (q + 2) i = nI (L.getD i (0, 0, [])).2.1 ∧ s.1 (q + 3) i = nI (min 400 (oz_fl (L.take (i + 1))).length)
theorem oz_gl1 {L M : List (Nat × Nat × List Nat)} {i : Nat} {d : Nat × Nat × List Nat} (h : i < L.length) : (L ++ M).getD i d = L.getD i d := by
  rw [List.getD_eq_getElem?_getD, List.getElem?_append_left h, List.getD_eq_getElem?_getD]
theorem oz_gl2 {L : List (Nat × Nat × List Nat)} {x d : Nat × Nat × List Nat} : (L ++ [x]).getD L.length d = x := by
  rw [List.getD_eq_getElem?_getD, List.getElem?_append_right (Nat.le_refl _), Nat.sub_self]
  rfl
section
variable {s : lf_S} {T : Nat → Nat} {len q : Nat}
theorem c_readKind {st : Nat ⊕ Nat} (X : oz_CX s T len st) : ∃ u, f_LawText_readKind s = some (nI (oz_knd T len st).1, u) ∧ oz_CX u T len (oz_knd T len st).2 ∧ oz_fr (fun p => p = 1) s u := by
  obtain ⟨u1, k1, k2, k3⟩ := c_takeWord X 55 (by decide +kernel)
  unfold f_LawText_readKind oz_knd
  by_cases c : oz_isW T len 55 st = true
  · rw [c] at k1
    rw [oz_tkt k1, if_pos c]
    exact ⟨u1, rfl, k2, k3⟩
  have d : oz_isW T len 55 st = false := by
    cases h : oz_isW T len 55 st with
    | false => rfl
    | true => exact absurd h c
  rw [d] at k1
  rw [oz_toW_f d] at k2
  rw [oz_tkf k1, if_neg c]
  obtain ⟨u2, l1, l2, l3⟩ := c_takeWord k2 56 (by decide +kernel)
  by_cases c2 : oz_isW T len 56 st = true
  · rw [c2] at l1
    rw [oz_tkt l1, if_pos c2]
    exact ⟨u2, rfl, l2, oz_fr_tr k3 l3⟩
  have d2 : oz_isW T len 56 st = false := by
    cases h : oz_isW T len 56 st with
    | false => rfl
    | true => exact absurd h c2
  rw [d2] at l1
  rw [oz_toW_f d2] at l2
  rw [oz_tkf l1, if_neg c2]
  obtain ⟨u3, m1, m2, m3⟩ := c_needWord l2 57 (by decide +kernel)
  try dsimp only
  rw [m1, Option.bind_some]
  exact ⟨u3, rfl, m2, oz_fr_tr (oz_fr_tr k3 l3) m3⟩
theorem c_endLine {L : List (Nat × Nat × List Nat)} {c : List Nat} {k n : Nat} (h0 : s.1 q 0 = nI L.length) (h12 : L.length < 12) (E : oz_CE s q (oz_fl L ++ c)) (h : ∀ i, i < L.length → s.1 (q + 1) i = nI (L.getD i (0, 0, [])).1 ∧ s.1 (q + 2) i = nI (L.getD i (0, 0, [])).2.1 ∧ s.1 (q + 3) i = nI (min 400 (oz_fl (L.take (i + 1))).length)) : ∃ u, f_Law_endLine q (nI k) (nI n) s = some u ∧ oz_CL2 u q (L ++ [(k, n, c)]) ∧ oz_fr (fun p => q ≤ p ∧ p < q + 6) s u := by
  have ln : (L ++ [(k, n, c)]).length = L.length + 1 := by rw [List.length_append]; rfl
  have ef : oz_fl (L ++ [(k, n, c)]) = oz_fl L ++ c := by
    rw [oz_fl_app]
    show oz_fl L ++ (c ++ []) = _
    rw [List.append_nil]
  unfold f_Law_endLine
  rw [h0, pl_12, oz_ile_f h12 (by omega), oz_ck h12 (by omega)]
  simp only [lf_lt]
  rw [oz_w_o (by omega), h0, oz_ck h12 (by omega), oz_w_o (by omega), oz_w_o (by omega), h0, oz_ck h12 (by omega), oz_w_o (by omega), oz_w_o (by omega), oz_w_o (by omega), h0, pl_1, nI_add, E.1]
  refine ⟨_, rfl, ⟨?_, by rw [ln]; omega, ⟨?_, fun i hi => ?_⟩, fun i hi => ?_⟩, oz_fr_tr (oz_fr_w (by omega)) (oz_fr_tr (oz_fr_w (by omega)) (oz_fr_tr (oz_fr_w (by omega)) (oz_fr_w (by omega))))⟩
  · rw [oz_w_s, ln]
  · rw [ef, oz_w_n (by omega), oz_w_o (by omega), oz_w_o (by omega), oz_w_o (by omega)]
    exact E.1
  · rw [ef] at hi
    rw [ef, oz_w_o (by omega), oz_w_o (by omega), oz_w_o (by omega), oz_w_o (by omega)]
    exact E.2 i hi
  · rw [ln] at hi
    by_cases ci : i = L.length
    · subst ci
      rw [oz_gl2, List.take_of_length_le (by rw [ln]; exact Nat.le_refl _), ef]
      refine ⟨?_, ?_, ?_⟩
      · rw [oz_w_o (by omega), oz_w_o (by omega), oz_w_o (by omega), oz_w_s]
      · rw [oz_w_o (by omega), oz_w_o (by omega), oz_w_s]
      · rw [oz_w_o (by omega), oz_w_s]
    · have hi' : i < L.length := by omega
      rw [oz_gl1 hi', List.take_append_of_le_length (by omega)]
      obtain ⟨e1, e2, e3⟩ := h i hi'
      refine ⟨?_, ?_, ?_⟩
      · rw [oz_w_o (by omega), oz_w_o (by omega), oz_w_o (by omega), oz_w_n ci]; exact e1
      · rw [oz_w_o (by omega), oz_w_o (by omega), oz_w_n ci, oz_w_o (by omega)]; exact e2
      · rw [oz_w_o (by omega), oz_w_n ci, oz_w_o (by omega), oz_w_o (by omega)]; exact e3
/-- a line, up to the next -/
def oz_ll (q : Nat) (v2 : Int32) (n : Nat) (s : lf_S) : Option lf_S := (f_LawText_readKind s).bind (fun p5 => lf_lt p5.1 (fun y6 => (f_Tape_takeNumber (0 : Int32) (99 : Int32) p5.2).bind (fun p7 => lf_lt p7.1 (fun y8 => (f_Tape_takeWord 54 p7.2).bind (fun p9 => (if p9.1 = true then (f_LawText_readAny q (0 : Int32) p9.2).bind (fun p12 => (f_Law_endLine q y6 y8 p12).bind (fun p13 => lf_lt (v2 + (1 : Int32)) (fun y14 => f_LawText_read_10 q n y14 p13))) else (f_Law_endLine q y6 y8 p9.2).bind (fun p10 => lf_lt (v2 + (1 : Int32)) (fun y11 => f_LawText_read_10 q n y11 p10))))))))
theorem oz_read10 {v2 : Int32} {n : Nat} : f_LawText_read_10 q (n + 1) v2 s = (if (12 : Int32) < v2 then some s else (f_Tape_lineComes v2 (12 : Int32) s).bind (fun p4 => (if p4.1 = true then oz_ll q v2 n p4.2 else some p4.2))) := rfl
theorem c_lawLine (hq : 10 ≤ q) {L : List (Nat × Nat × List Nat)} {p l fuel : Nat} (X : oz_CX s T len (Sum.inr p)) (hL : oz_CL2 s q L) (h12 : L.length < 12) : ∃ u, oz_ll q (nI l) fuel s = f_LawText_read_10 q fuel (nI (l + 1)) u ∧ oz_CX u T len (oz_l2 T len p).2 ∧ oz_CL2 u q (L ++ [oz_lln T len p]) ∧ oz_fr (fun z => z = 1 ∨ (q ≤ z ∧ z < q + 6)) s u := by
  obtain ⟨c0, c12, cE, cR⟩ := hL
  obtain ⟨u1, a1, a2, a3⟩ := c_readKind X
  obtain ⟨u2, b1, b2, b3⟩ := c_takeNumber a2 (lo := 0) (hi := nI 99) (by omega)
  obtain ⟨u3, d1, d2, d3⟩ := c_takeWord b2 54 (by decide +kernel)
  have f3 := oz_fr_tr a3 (oz_fr_tr b3 d3)
  have b2' : oz_CX u2 T len (oz_l1 T len p) := b2
  have d1' : f_Tape_takeWord 54 u2 = some (oz_isW T len 54 (oz_l1 T len p), u3) := d1
  have d2' : oz_CX u3 T len (oz_toW T len 54 (oz_l1 T len p)) := d2
  unfold oz_ll
  rw [a1, Option.bind_some]
  simp only [lf_lt]
  rw [pl_0, pl_99, b1, Option.bind_some]
  try dsimp only
  have e2 : oz_l2 T len p = if oz_isW T len 54 (oz_l1 T len p) = true then oz_cnd T len (oz_toW T len 54 (oz_l1 T len p)) else ([], oz_l1 T len p) := rfl
  have fin : ∀ (v : lf_S) c, oz_CX v T len (oz_l2 T len p).2 → oz_CE v q (oz_fl L ++ (oz_l2 T len p).1) → oz_fr (fun z => z = 1 ∨ z = q ∨ z = q + 4) s v → (∀ j, j ≠ 5 → v.1 q j = s.1 q j) → c = (oz_l2 T len p).1 → ∃ u, (f_Law_endLine q (nI (oz_knd T len (Sum.inr p)).1) (nI (oz_nmV T len 0 (nI 99) (oz_knd T len (Sum.inr p)).2)) v).bind (fun p13 => f_LawText_read_10 q fuel (nI l + 1) p13) = f_LawText_read_10 q fuel (nI (l + 1)) u ∧ oz_CX u T len (oz_l2 T len p).2 ∧ oz_CL2 u q (L ++ [oz_lln T len p]) ∧ oz_fr (fun z => z = 1 ∨ (q ≤ z ∧ z < q + 6)) s u := by
    intro v c Xv Ev fv jv hc
    obtain ⟨u, g1, g2, g3⟩ := c_endLine (s := v) (q := q) (k := (oz_knd T len (Sum.inr p)).1) (n := oz_nmV T len 0 (nI 99) (oz_knd T len (Sum.inr p)).2) (by rw [jv 0 (by omega)]; exact c0) h12 Ev (fun i hi => by rw [fv.1 (q + 1) (by omega), fv.1 (q + 2) (by omega), fv.1 (q + 3) (by omega)]; exact cR i hi)
    exact ⟨u, by rw [g1, Option.bind_some, pl_1, nI_add], oz_CX_fr Xv (g3.1 1 (by omega)) (g3.1 2 (by omega)), g2, oz_fr_tr (oz_fr_mono fv (by omega)) (oz_fr_mono g3 (by omega))⟩
  by_cases c : oz_isW T len 54 (oz_l1 T len p) = true
  · rw [c] at d1'
    rw [if_pos c] at e2
    rw [oz_tkt d1']
    obtain ⟨u4, i1, i2, i3, i4, i5⟩ := c_readAny0 hq u3 _ _ d2' (oz_CE_fr cE hq f3)
    rw [← e2] at i2 i3
    try dsimp only
    rw [show nI 0 = (0 : Int32) from rfl, i1, Option.bind_some]
    exact fin u4 _ i2 i3 (oz_fr_tr (oz_md1 (by omega) f3) i4) (fun j hj => by rw [i5 j hj, f3.1 q (by omega)]) rfl
  · have d : oz_isW T len 54 (oz_l1 T len p) = false := by
      cases h : oz_isW T len 54 (oz_l1 T len p) with
      | false => rfl
      | true => exact absurd h c
    rw [d] at d1'
    rw [oz_toW_f d] at d2'
    rw [if_neg c] at e2
    rw [oz_tkf d1']
    exact fin u3 _ (by rw [e2]; exact d2') (by rw [e2]; show oz_CE u3 q (oz_fl L ++ []); rw [List.append_nil]; exact oz_CE_fr cE hq f3) (oz_md1 (by omega) f3) (fun j hj => by rw [f3.1 q (by omega)]) rfl
theorem oz_CL2_fr {u : lf_S} {L : List (Nat × Nat × List Nat)} (h : oz_CL2 s q L) (f : ∀ p, q ≤ p → p < q + 5 → u.1 p = s.1 p) : oz_CL2 u q L := by
  obtain ⟨c0, c12, cE, cR⟩ := h
  refine ⟨by rw [f q (by omega) (by omega)]; exact c0, c12, ⟨by rw [f q (by omega) (by omega)]; exact cE.1, fun i hi => by rw [f _ (by omega) (by omega)]; exact cE.2 i hi⟩, fun i hi => ?_⟩
  rw [f _ (by omega) (by omega), f _ (by omega) (by omega), f _ (by omega) (by omega)]
  exact cR i hi
theorem c_lawLoop (hq : 10 ≤ q) : ∀ k l p (s : lf_S) L fuel, l + k = 12 → 1 ≤ k → k + 1 < fuel → L.length = l → oz_CL2 s q L → oz_CX s T len (Sum.inr p) → ∃ u, oz_ll q (nI l) fuel s = some u ∧ oz_CX u T len (oz_lrd T len k p).2 ∧ ((oz_lrd T len k p).2.isRight = true → oz_CL2 u q (L ++ (oz_lrd T len k p).1)) ∧ oz_fr (fun z => z = 1 ∨ (q ≤ z ∧ z < q + 6)) s u := by
  intro k
  induction k with
  | zero => intro l p s L fuel h1 h2; omega
  | succ k ih =>
    intro l p s L fuel h1 h2 hf hl hL X
    obtain ⟨u, k1, k2, k3, k4⟩ := c_lawLine (l := l) (fuel := fuel) hq X hL (by omega)
    obtain ⟨fuel, rfl⟩ : ∃ m, fuel = m + 1 := ⟨fuel - 1, by omega⟩
    rw [k1, oz_read10, pl_12, oz_ilt_f (by omega) (by omega)]
    obtain ⟨v, g1, g2, g3⟩ := c_lineComes k2 (l := l + 1) (m := 12) (by omega) (by omega)
    have fv := oz_fr_tr k4 (oz_md1 (P := fun z => z = 1 ∨ (q ≤ z ∧ z < q + 6)) (Or.inl rfl) g3)
    have Lv : oz_CL2 v q (L ++ [oz_lln T len p]) := oz_CL2_fr k3 (fun z h1 h2 => g3.1 z (by omega))
    cases hx : (oz_l2 T len p).2 with
    | inl z =>
      rw [hx] at g1 g2
      rw [oz_lrd_l hx, oz_tkf g1]
      exact ⟨v, rfl, g2, fun h => Bool.noConfusion h, fv⟩
    | inr p' =>
      rw [hx] at g1 g2
      rw [oz_lrd_r hx]
      have e : oz_lcm T len (l + 1) 12 (Sum.inr p') = if len ≤ p' then (false, Sum.inr p') else if l + 1 = 0 then (true, Sum.inr p') else if T p' = 59 then (if l + 1 < 12 then (true, Sum.inr (oz_sb T len (p' + 1))) else (false, Sum.inl (oz_sb T len (p' + 1)))) else (false, Sum.inl p') := rfl
      rw [e] at g1 g2
      by_cases c : len ≤ p'
      · rw [if_pos c] at g1 g2
        rw [if_pos c, oz_tkf g1]
        exact ⟨v, rfl, g2, fun _ => Lv, fv⟩
      · rw [if_neg c, if_neg (by omega)] at g1 g2
        rw [if_neg c]
        by_cases c2 : T p' = 59
        · rw [if_pos c2] at g1 g2
          rw [if_pos c2]
          by_cases c3 : l + 1 < 12
          · rw [if_pos c3] at g1 g2
            rw [oz_tkt g1]
            obtain ⟨w, j1, j2, j3, j4⟩ := ih (l + 1) _ v _ fuel (by omega) (by omega) (by omega) (by rw [List.length_append, hl]; rfl) Lv g2
            refine ⟨w, j1, j2, fun h => ?_, oz_fr_tr fv j4⟩
            have := j3 h
            rw [List.append_assoc] at this
            exact this
          · rw [if_neg c3] at g1 g2
            rw [oz_tkf g1]
            obtain rfl : k = 0 := by omega
            exact ⟨v, rfl, g2, fun h => Bool.noConfusion h, fv⟩
        · rw [if_neg c2] at g1 g2
          rw [if_neg c2, oz_tkf g1]
          exact ⟨v, rfl, g2, fun h => Bool.noConfusion h, fv⟩
theorem c_lawRead (hq : 10 ≤ q) (h1 : s.1 1 1 = nI len) (h2 : len ≤ 400) (h3 : ∀ i, i < len → T i ≤ 255 ∧ s.1 2 i = nI (T i)) : ∃ u, f_LawText_read q s = some ((oz_lrA T len).2.isRight, u) ∧ oz_CX u T len (oz_lrA T len).2 ∧ ((oz_lrA T len).2.isRight = true → oz_CL2 u q (oz_lrA T len).1) ∧ oz_fr (fun z => z = 1 ∨ (q ≤ z ∧ z < q + 6)) s u := by
  have g := c_moveTo (s := lf_w s 1 2 oz_N) (T := T) (len := len) (by rw [oz_w_n (by omega)]; exact h1) h2 (fun i hi => by rw [oz_w_o (by omega)]; exact h3 i hi) (p := 0) (by omega)
  have hs := oz_sb_le (T := T) (len := len) (p := 0) (by omega)
  obtain ⟨t, ht⟩ : ∃ t, t = lf_w (lf_w s 1 2 oz_N) 1 3 (nI (oz_sb T len 0)) := ⟨_, rfl⟩
  have ft : oz_fr (fun z => z = 1 ∨ (q ≤ z ∧ z < q + 6)) s t := by
    rw [ht]
    exact oz_fr_tr (oz_fr_w (by omega)) (oz_fr_w (by omega))
  have X : oz_CX t T len (Sum.inr (oz_sb T len 0)) := by
    rw [ht]
    refine ⟨by rw [oz_w_n (by omega), oz_w_n (by omega)]; exact h1, h2, fun i hi => by rw [oz_w_o (by omega), oz_w_o (by omega)]; exact h3 i hi, ?_⟩
    show (lf_w (lf_w s 1 2 oz_N) 1 3 _).1 1 2 = oz_N ∧ (lf_w (lf_w s 1 2 oz_N) 1 3 _).1 1 3 = nI _ ∧ _ ≤ len ∧ _
    exact ⟨(oz_w_n (by omega)).trans oz_w_s, oz_w_s, hs.2, oz_sb_nb⟩
  have es : f_Tape_start s = some t := by
    unfold f_Tape_start
    simp only [lf_lt]
    rw [pl_1, oz_neg1, pl_0, g, ht]
    rfl
  obtain ⟨w, hw⟩ : ∃ w, w = lf_w (lf_w t q 0 (nI 0)) q 5 (nI 0) := ⟨_, rfl⟩
  have ec : f_Law_clear q t = some w := by
    unfold f_Law_clear
    simp only [lf_lt]
    rw [pl_0, hw]
  have fw : oz_fr (fun z => z = 1 ∨ (q ≤ z ∧ z < q + 6)) s w := by
    rw [hw]
    exact oz_fr_tr ft (oz_fr_tr (oz_fr_w (by omega)) (oz_fr_w (by omega)))
  have Xw : oz_CX w T len (Sum.inr (oz_sb T len 0)) := by
    rw [hw]
    exact oz_CX_w (oz_CX_w X hq) hq
  have Lw : oz_CL2 w q [] := by
    rw [hw]
    refine ⟨by rw [oz_w_n (by omega), oz_w_s]; rfl, Nat.zero_le _, ⟨by rw [oz_w_s]; rfl, fun i hi => absurd hi (by show ¬ i < min 400 0; omega)⟩, fun i hi => absurd hi (Nat.not_lt_zero _)⟩
  have key : ∃ u, f_LawText_read_10 q 5000 (nI 0) w = some u ∧ oz_CX u T len (oz_lrA T len).2 ∧ ((oz_lrA T len).2.isRight = true → oz_CL2 u q (oz_lrA T len).1) ∧ oz_fr (fun z => z = 1 ∨ (q ≤ z ∧ z < q + 6)) s u := by
    obtain ⟨v, g1, g2, g3⟩ := c_lineComes Xw (l := 0) (m := 12) (by omega) (by omega)
    rw [oz_read10, pl_12, oz_ilt_f (by omega) (by omega)]
    unfold oz_lrA
    have e : oz_lcm T len 0 12 (Sum.inr (oz_sb T len 0)) = if len ≤ oz_sb T len 0 then (false, Sum.inr (oz_sb T len 0)) else (true, Sum.inr (oz_sb T len 0)) := rfl
    rw [e] at g1 g2
    have fv : oz_fr (fun z => z = 1 ∨ (q ≤ z ∧ z < q + 6)) s v := oz_fr_tr fw (oz_md1 (Or.inl rfl) g3)
    have Lv : oz_CL2 v q [] := oz_CL2_fr Lw (fun z h1 h2 => g3.1 z (by omega))
    by_cases c : len ≤ oz_sb T len 0
    · rw [if_pos c] at g1 g2
      rw [if_pos c, oz_tkf g1]
      exact ⟨v, rfl, g2, fun _ => Lv, fv⟩
    · rw [if_neg c] at g1 g2
      rw [if_neg c, oz_tkt g1]
      obtain ⟨u, j1, j2, j3, j4⟩ := c_lawLoop hq 12 0 _ v [] 4999 (by omega) (by omega) (by omega) rfl Lv g2
      exact ⟨u, j1, j2, j3, oz_fr_tr fv j4⟩
  obtain ⟨u, k1, k2, k3, k4⟩ := key
  have nf := c_failed k2
  refine ⟨u, ?_, k2, k3, k4⟩
  unfold f_LawText_read
  rw [es, Option.bind_some, ec, Option.bind_some]
  simp only [lf_lt]
  rw [pl_0, k1, Option.bind_some, nf, Option.bind_some]
  cases (oz_lrA T len).2 <;> rfl
end
