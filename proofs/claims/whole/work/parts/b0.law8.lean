/-! ===== the law reckoned by the class ===== -/
/-- the values that a bed shows -/
def oz_ga (a : Nat → Nat) (i : Nat) : Nat → Int32 := fun x => if x < 1000 then nI x else if x = 1000 then nI i else if x = 1001 then nI (oz_bed a i 0) else if x = 1002 then nI (oz_bed a i 1) else if x = 1003 then nI (oz_bed a i 2) else if x = 1004 then nI (oz_bed a i 3) else if x = 1005 then nI (a 8) else if x = 1006 then nI (a 9 % 100) else if x = 1007 then (if a 10 = 1 then 1 else 0) else if x = 1008 then (if oz_bed a i 1 < 2 then 0 else 1) else (if oz_bed a i 2 ≤ 50 then 0 else 1)
theorem oz_rn_cg {g h : Nat → Int32} (e : ∀ x, x < 1010 → g x = h x) : ∀ (c : List Nat) (z : List Int32), oz_rn g c z = oz_rn h c z := by
  intro c
  induction c with
  | nil => intro z; rfl
  | cons x c ih =>
    intro z
    show (oz_st g x z).bind (oz_rn g c) = (oz_st h x z).bind (oz_rn h c)
    have es : oz_st g x z = oz_st h x z := by
      unfold oz_st
      by_cases c : x < 1010
      · rw [if_pos c, if_pos c, e x c]
      · rw [if_neg c, if_neg c]
    rw [es]
    cases oz_st h x z with
    | none => rfl
    | some y => exact ih y
theorem oz_hd_cg {g h : Nat → Int32} (e : ∀ x, x < 1010 → g x = h x) (c : List Nat) : oz_hd g c = oz_hd h c := by
  cases c with
  | nil => rfl
  | cons x c =>
    unfold oz_hd
    rw [oz_rn_cg e]
/-- what waits -/
def oz_Wt (s : lf_S) (q : Nat) : List Int32 → Prop
  | [] => True
  | v :: r => s.1 (q + 5) r.length = v ∧ oz_Wt s q r
theorem oz_Wt_w {s : lf_S} {q i : Nat} {v : Int32} : ∀ z : List Int32, z.length ≤ i → oz_Wt s q z → oz_Wt (lf_w s (q + 5) i v) q z := by
  intro z
  induction z with
  | nil => intro _ _; trivial
  | cons y r ih =>
    intro h w
    have h' : r.length + 1 ≤ i := h
    exact ⟨by rw [oz_w_n (by omega)]; exact w.1, ih (by omega) w.2⟩
theorem oz_r1 (X Y N : Int32) : (X - Y) + N = (X + N) - Y := by rw [Int32.sub_eq_add_neg, Int32.sub_eq_add_neg, Int32.add_assoc, Int32.add_comm (-Y), ← Int32.add_assoc]
theorem oz_r2 (X Y N : Int32) : (X - Y) + -N = X - (Y + N) := by rw [← Int32.sub_eq_add_neg, Int32.sub_sub]
/-- how much the lines of a kind that hold tell together -/
def oz_sun (g : Nat → Int32) (k : Nat) : List (Nat × Nat × List Nat) → Nat
  | [] => 0
  | l :: L => (if l.1 = k ∧ oz_hd g l.2.2 = true then l.2.1 else 0) + oz_sun g k L
theorem oz_sun_cg {g h : Nat → Int32} (e : ∀ x, x < 1010 → g x = h x) {k : Nat} : ∀ L, oz_sun g k L = oz_sun h k L := by
  intro L
  induction L with
  | nil => rfl
  | cons l L ih =>
    show (if l.1 = k ∧ oz_hd g l.2.2 = true then l.2.1 else 0) + oz_sun g k L = (if l.1 = k ∧ oz_hd h l.2.2 = true then l.2.1 else 0) + oz_sun h k L
    rw [oz_hd_cg e, ih]
theorem oz_sun_le {g : Nat → Int32} {k : Nat} : ∀ L, oz_wfL L → oz_sun g k L ≤ 99 * L.length := by
  intro L
  induction L with
  | nil => intro _; exact Nat.zero_le _
  | cons l L ih =>
    intro h
    have h1 := (h l (List.mem_cons_self ..)).2.1
    have h2 := ih (fun x hx => h x (List.mem_cons_of_mem _ hx))
    show (if l.1 = k ∧ oz_hd g l.2.2 = true then l.2.1 else 0) + oz_sun g k L ≤ 99 * (L.length + 1)
    split <;> omega
/-- the model's folding is the sums -/
theorem oz_fo_sun {g : Nat → Int32} : ∀ L X Y c, oz_wfL L → oz_fo g L (nI X - nI Y, nI c) = (nI (X + oz_sun g 0 L) - nI (Y + oz_sun g 1 L), nI (c + oz_sun g 2 L)) := by
  intro L
  induction L with
  | nil => intro X Y c _; rfl
  | cons l L ih =>
    intro X Y c h
    have h1 := (h l (List.mem_cons_self ..)).1
    have h2 : oz_wfL L := fun x hx => h x (List.mem_cons_of_mem _ hx)
    have e : ∀ k, oz_sun g k (l :: L) = (if l.1 = k ∧ oz_hd g l.2.2 = true then l.2.1 else 0) + oz_sun g k L := fun _ => rfl
    rw [e, e, e]
    show oz_fo g L (if oz_hd g l.2.2 = true then oz_fs l.1 l.2.1 (nI X - nI Y, nI c) else (nI X - nI Y, nI c)) = _
    by_cases hd : oz_hd g l.2.2 = true
    · rw [if_pos hd]
      unfold oz_fs
      by_cases c0 : l.1 = 0
      · rw [if_pos c0, if_neg (by omega), if_pos ⟨c0, hd⟩, if_neg (by omega), if_neg (by omega), oz_r1, nI_add, Int32.add_zero, ih _ _ _ h2, Nat.zero_add, Nat.zero_add, Nat.add_assoc]
      · by_cases c1 : l.1 = 1
        · rw [if_neg c0, if_pos c1, if_neg (by omega), if_neg (by omega), if_pos ⟨c1, hd⟩, if_neg (by omega), oz_r2, nI_add, Int32.add_zero, ih _ _ _ h2, Nat.zero_add, Nat.zero_add, Nat.add_assoc]
        · rw [if_neg c0, if_neg c1, if_pos (by omega), if_neg (by omega), if_neg (by omega), if_pos ⟨by omega, hd⟩, Int32.add_zero, nI_add, ih _ _ _ h2, Nat.zero_add, Nat.zero_add, Nat.add_assoc]
    · rw [if_neg hd, if_neg (fun z => hd z.2), if_neg (fun z => hd z.2), if_neg (fun z => hd z.2), ih _ _ _ h2, Nat.zero_add, Nat.zero_add, Nat.zero_add]
section
variable {s : lf_S} {q b i : Nat} {a : Nat → Nat}
theorem c_valueOf (V : oz_V a) (C : oz_C s b a) (hi : i < a 3) {x : Nat} (h0 : 1000 ≤ x) (h1 : x < 1010) : f_Law_valueOf (nI x) b (nI i) s = some (oz_ga a i x) := by
  have hv := oz_V6 V
  have hV := oz_v0 V
  unfold oz_V0 at hV
  have v1 := oz_v1 V hi
  unfold oz_V1 at v1
  have B := C.2.1
  have eq : ∀ k, k < 2000 → (nI x = nI k) = (x = k) := fun k hk => oz_eq (by omega) (by omega)
  have k6 : ∀ {β : Type} (f : Nat → Option β), lf_ck (nI i) 6 f = f i := fun f => oz_ck (by omega) (by omega)
  unfold f_Law_valueOf oz_ga
  simp only [lf_lt]
  rw [if_neg (show ¬ x < 1000 by omega), pl_1000, pl_1001, pl_1002, pl_1003, pl_1004, pl_1005, pl_1006, pl_1007, pl_1008, pl_2, pl_50, pl_100]
  by_cases c0 : x = 1000
  · rw [if_pos c0, if_pos (by rw [c0])]
  rw [if_neg c0, if_neg (by rw [eq 1000 (by omega)]; exact c0)]
  by_cases c1 : x = 1001
  · rw [if_pos c1, if_pos (by rw [c1]), k6, b_1 B hi]
  rw [if_neg c1, if_neg (by rw [eq 1001 (by omega)]; exact c1)]
  by_cases c2 : x = 1002
  · rw [if_pos c2, if_pos (by rw [c2]), k6, b_2 B hi]
  rw [if_neg c2, if_neg (by rw [eq 1002 (by omega)]; exact c2)]
  by_cases c3 : x = 1003
  · rw [if_pos c3, if_pos (by rw [c3]), k6, b_3 B hi]
  rw [if_neg c3, if_neg (by rw [eq 1003 (by omega)]; exact c3)]
  by_cases c4 : x = 1004
  · rw [if_pos c4, if_pos (by rw [c4]), k6, b_4 B hi]
  rw [if_neg c4, if_neg (by rw [eq 1004 (by omega)]; exact c4)]
  by_cases c5 : x = 1005
  · rw [if_pos c5, if_pos (by rw [c5]), oz_C0_8 C.1]
  rw [if_neg c5, if_neg (by rw [eq 1005 (by omega)]; exact c5)]
  by_cases c6 : x = 1006
  · rw [if_pos c6, if_pos (by rw [c6]), oz_C0_9 C.1, oz_mod (by omega) (by omega) (by omega)]
  rw [if_neg c6, if_neg (by rw [eq 1006 (by omega)]; exact c6)]
  by_cases c7 : x = 1007
  · rw [if_pos c7, if_pos (by rw [c7]), oz_C0_11 C.1]
    by_cases cw : a 10 = 1
    · rw [if_pos cw, if_neg (by rw [cw]; decide +kernel)]
    · rw [if_neg cw, if_pos (by rw [show a 10 = 0 by omega]; rfl)]
  rw [if_neg c7, if_neg (by rw [eq 1007 (by omega)]; exact c7)]
  by_cases c8 : x = 1008
  · rw [if_pos c8, if_pos (by rw [c8]), k6, b_2 B hi]
    by_cases cw : oz_bed a i 1 < 2
    · rw [if_pos cw, oz_ilt_t cw (by omega)]
    · rw [if_neg cw, oz_ilt_f (by omega) (by omega)]
  rw [if_neg c8, if_neg (by rw [eq 1008 (by omega)]; exact c8), k6, b_3 B hi]
  by_cases cw : oz_bed a i 2 ≤ 50
  · rw [if_pos cw, oz_ile_t cw (by omega)]
  · rw [if_neg cw, oz_ile_f (by omega) (by omega)]
theorem c_joined {x : Nat} (h : x < 1016) (v w : Int32) : f_Law_joined (nI x) v w = some (oz_jv x v w) := by
  have eq : ∀ k, k < 2000 → (nI x = nI k) = (x = k) := fun k hk => oz_eq (by omega) (by omega)
  unfold f_Law_joined oz_jv
  simp only [lf_lt]
  rw [pl_1011, pl_1012, pl_1013, pl_1014]
  by_cases c1 : x = 1011
  · rw [if_pos c1, if_pos (by rw [c1])]
  rw [if_neg c1, if_neg (by rw [eq 1011 (by omega)]; exact c1)]
  by_cases c2 : x = 1012
  · rw [if_pos c2, if_pos (by rw [c2])]
    split <;> rfl
  rw [if_neg c2, if_neg (by rw [eq 1012 (by omega)]; exact c2)]
  by_cases c3 : x = 1013
  · rw [if_pos c3, if_pos (by rw [c3])]
    split <;> rfl
  rw [if_neg c3, if_neg (by rw [eq 1013 (by omega)]; exact c3)]
  by_cases c4 : x = 1014
  · rw [if_pos c4, if_pos (by rw [c4])]
  rw [if_neg c4, if_neg (by rw [eq 1014 (by omega)]; exact c4)]
theorem c_reckon (V : oz_V a) (C : oz_C s b a) (hi : i < a 3) {x : Nat} (hx : x < 1016) {z z' : List Int32} (h24 : z.length ≤ 24) (W : oz_Wt s q z) (h : oz_st (oz_ga a i) x z = some z') : ∃ u, f_Law_reckon q (nI x) (nI z.length) b (nI i) s = some (nI z'.length, u) ∧ oz_Wt u q z' ∧ oz_fr (fun p => p = q + 5) s u ∧ z'.length ≤ 24 := by
  unfold f_Law_reckon
  unfold oz_st at h
  rw [pl_1010, pl_1000, pl_24, pl_1, pl_2]
  by_cases c1 : x < 1010
  · rw [if_pos c1] at h
    rw [oz_ile_f c1 (by omega)]
    by_cases c2 : z.length < 24
    · rw [if_pos c2] at h
      have hz := (Option.some.inj h).symm
      have push : ∀ v : Int32, v = oz_ga a i x → ∃ u, lf_ck (nI z.length) 24 (fun k12 => lf_lt (lf_w s (q + 5) k12 v) (fun s13 => some ((nI z.length + nI 1), s13))) = some (nI z'.length, u) ∧ oz_Wt u q z' ∧ oz_fr (fun p => p = q + 5) s u ∧ z'.length ≤ 24 := by
        intro v hv
        rw [oz_ck c2 (by omega)]
        simp only [lf_lt]
        rw [nI_add, hz, hv]
        exact ⟨_, rfl, ⟨oz_w_s, oz_Wt_w z (Nat.le_refl _) W⟩, oz_fr_w rfl, c2⟩
      rw [oz_ilt_t c2 (by omega)]
      by_cases c3 : 1000 ≤ x
      · rw [oz_ile_t c3 (by omega), c_valueOf V C hi c3 c1, Option.bind_some]
        exact push _ rfl
      · rw [oz_ile_f (by omega) (by omega)]
        exact push (nI x) (by unfold oz_ga; rw [if_pos (by omega)])
    · rw [if_neg c2] at h
      exact nomatch h
  · rw [if_neg c1] at h
    rw [oz_ile_t (by omega) (by omega)]
    by_cases c2 : x = 1010
    · rw [if_pos c2] at h
      rw [if_pos (show nI x = nI 1010 by rw [c2])]
      cases z with
      | nil => exact nomatch h
      | cons v r =>
        have hz := (Option.some.inj h).symm
        have hl : (v :: r).length = r.length + 1 := rfl
        rw [hl] at h24
        rw [hl, oz_ilt_f (by omega) (by omega), oz_sub (by omega), show r.length + 1 - 1 = r.length by omega, oz_ck (by omega) (by omega), oz_ck (by omega) (by omega), W.1]
        simp only [lf_lt]
        rw [hz]
        exact ⟨_, rfl, ⟨oz_w_s, oz_Wt_w r (Nat.le_refl _) W.2⟩, oz_fr_w rfl, h24⟩
    · rw [if_neg c2] at h
      rw [if_neg (show ¬ (nI x = nI 1010) by rw [oz_eq (by omega) (by omega)]; exact c2)]
      cases z with
      | nil => exact nomatch h
      | cons w r =>
        cases r with
        | nil => exact nomatch h
        | cons v r =>
          have hz := (Option.some.inj h).symm
          have hl : (w :: v :: r).length = r.length + 2 := rfl
          rw [hl] at h24
          have w1 : s.1 (q + 5) (r.length + 1) = w := W.1
          have w2 : s.1 (q + 5) r.length = v := W.2.1
          rw [hl, oz_ile_t (by omega) (by omega), oz_sub (by omega), oz_sub (by omega), show r.length + 2 - 2 = r.length by omega, show r.length + 2 - 1 = r.length + 1 by omega, oz_ck (by omega) (by omega), oz_ck (by omega) (by omega), w1, w2, c_joined hx, Option.bind_some, oz_ck (by omega) (by omega)]
          simp only [lf_lt]
          rw [hz]
          exact ⟨_, rfl, ⟨oz_w_s, oz_Wt_w r (Nat.le_refl _) W.2.2⟩, oz_fr_w rfl, by show r.length + 1 ≤ 24; omega⟩
theorem c_run33 (V : oz_V a) (hq : b + 24 ≤ q ∨ q + 6 ≤ b) (hi : i < a 3) {c4 : Int32} {e : Nat} (he : e ≤ 400) : ∀ (c : List Nat) (z z' : List Int32) (j : Nat) (s : lf_S) fuel, oz_C s b a → (∀ x, x ∈ c → x < 1016) → j + c.length = e → (∀ k, k < c.length → s.1 (q + 4) (j + k) = nI (c.getD k 0)) → z.length ≤ 24 → oz_Wt s q z → oz_rn (oz_ga a i) c z = some z' → c.length < fuel → ∃ u, f_Law_holds_33 q b (nI i) c4 (nI e) fuel (nI z.length) (nI j) s = some u ∧ oz_Wt u q z' ∧ oz_fr (fun p => p = q + 5) s u := by
  intro c
  induction c with
  | nil =>
    intro z z' j s fuel C hx hj hc h24 W h hf
    obtain ⟨fuel, rfl⟩ : ∃ m, fuel = m + 1 := ⟨fuel - 1, by omega⟩
    have hj' : j + 0 = e := hj
    have hz := (Option.some.inj h).symm
    rw [f_Law_holds_33, oz_ile_t (by omega) (by omega), hz]
    exact ⟨s, rfl, W, oz_fr_rf⟩
  | cons x c ih =>
    intro z z' j s fuel C hx hj hc h24 W h hf
    obtain ⟨fuel, rfl⟩ : ∃ m, fuel = m + 1 := ⟨fuel - 1, by omega⟩
    have hj' : j + (c.length + 1) = e := hj
    have hf' : c.length + 1 < fuel + 1 := hf
    have h' : (oz_st (oz_ga a i) x z).bind (oz_rn (oz_ga a i) c) = some z' := h
    cases hs : oz_st (oz_ga a i) x z with
    | none => rw [hs] at h'; exact nomatch h'
    | some y =>
      rw [hs, Option.bind_some] at h'
      have c0 : s.1 (q + 4) j = nI x := hc 0 (Nat.succ_pos _)
      obtain ⟨u1, k1, k2, k3, k4⟩ := c_reckon V C hi (hx x (List.mem_cons_self ..)) h24 W hs
      have C1 : oz_C u1 b a := oz_C_fr V C (fun p p1 p2 => k3.1 p (by omega))
      obtain ⟨u, l1, l2, l3⟩ := ih y z' (j + 1) u1 fuel C1 (fun w hw => hx w (List.mem_cons_of_mem _ hw)) (by omega) (fun k hk => by
        rw [k3.1 (q + 4) (by omega), show j + 1 + k = j + (k + 1) by omega]
        exact hc (k + 1) (Nat.succ_lt_succ hk)) k4 k2 h' (by omega)
      refine ⟨u, ?_, l2, oz_fr_tr k3 l3⟩
      rw [f_Law_holds_33, oz_ile_f (by omega) (by omega), oz_ck (by omega) (by omega), c0, k1, Option.bind_some]
      simp only [lf_lt, pl_1, nI_add]
      exact l1
/-- a line, among those ahead of it and those behind it -/
theorem c_holds (V : oz_V a) (C : oz_C s b a) (hq : b + 24 ≤ q ∨ q + 6 ≤ b) (hi : i < a 3) {P M : List (Nat × Nat × List Nat)} {l : Nat × Nat × List Nat} (hL : oz_CL2 s q (P ++ l :: M)) (hl : l.2.2 = [] ∨ oz_wfC l.2.2 7) (h400 : (oz_fl (P ++ l :: M)).length ≤ 400) : ∃ u, f_Law_holds q (nI P.length) b (nI i) s = some (oz_hd (oz_ga a i) l.2.2, u) ∧ oz_fr (fun p => p = q + 5) s u := by
  obtain ⟨c0, c12, cE, cR⟩ := hL
  have len0 : (P ++ l :: M).length = P.length + (M.length + 1) := by rw [List.length_append]; rfl
  have fl0 : oz_fl (P ++ l :: M) = oz_fl P ++ (l.2.2 ++ oz_fl M) := by rw [oz_fl_app]; rfl
  have fln : (oz_fl (P ++ l :: M)).length = (oz_fl P).length + (l.2.2.length + (oz_fl M).length) := by rw [fl0, List.length_append, List.length_append]
  -- where the line's code ends
  have tk : (P ++ l :: M).take (P.length + 1) = P ++ [l] := by
    rw [List.take_append, List.take_of_length_le (by omega), show P.length + 1 - P.length = 1 by omega]
    rfl
  have tk0 : ∀ n, n ≤ P.length → (P ++ l :: M).take n = P.take n := fun n hn => by
    rw [List.take_append, show n - P.length = 0 by omega, List.take_zero, List.append_nil]
  have en : s.1 (q + 3) P.length = nI ((oz_fl P).length + l.2.2.length) := by
    have := (cR P.length (by omega)).2.2
    rw [tk, oz_fl_app] at this
    have e2 : (oz_fl P ++ oz_fl [l]).length = (oz_fl P).length + l.2.2.length := by
      rw [List.length_append]
      show (oz_fl P).length + (l.2.2 ++ []).length = _
      rw [List.append_nil]
    rw [e2] at this
    rw [this, show min 400 ((oz_fl P).length + l.2.2.length) = (oz_fl P).length + l.2.2.length by omega]
  have bg : P.length ≠ 0 → s.1 (q + 3) (P.length - 1) = nI (oz_fl P).length := by
    intro hP
    have := (cR (P.length - 1) (by omega)).2.2
    rw [show P.length - 1 + 1 = P.length by omega, tk0 _ (Nat.le_refl _), List.take_of_length_le (Nat.le_refl _)] at this
    rw [this, show min 400 (oz_fl P).length = (oz_fl P).length by omega]
  have seg : ∀ k, k < l.2.2.length → s.1 (q + 4) ((oz_fl P).length + k) = nI (l.2.2.getD k 0) := by
    intro k hk
    have := cE.2 ((oz_fl P).length + k) (by omega)
    rw [fl0, oz_gd2 (by omega), show (oz_fl P).length + k - (oz_fl P).length = k by omega, oz_gd1 hk] at this
    exact this
  have run : ∃ u, f_Law_holds_33 q b (nI i) (nI (oz_fl P).length) (nI ((oz_fl P).length + l.2.2.length)) 5000 (nI 0) (nI (oz_fl P).length) s = some u ∧ oz_fr (fun p => p = q + 5) s u ∧ (l.2.2 ≠ [] → ∃ v, u.1 (q + 5) 0 = v ∧ oz_hd (oz_ga a i) l.2.2 = decide (v ≠ 0)) := by
    rcases hl with hl | hl
    · refine ⟨s, ?_, oz_fr_rf, fun z => absurd hl z⟩
      rw [hl, f_Law_holds_33, oz_ile_t (by show (oz_fl P).length + 0 ≤ _; omega) (by omega)]
    · obtain ⟨v, hv⟩ := hl.2 (oz_ga a i)
      have hr := hv [] (Nat.zero_le _)
      obtain ⟨u, k1, k2, k3⟩ := c_run33 (c4 := nI (oz_fl P).length) V hq hi (show (oz_fl P).length + l.2.2.length ≤ 400 by omega) l.2.2 [] [v] (oz_fl P).length s 5000 C hl.1 rfl seg (Nat.zero_le _) trivial hr (by omega)
      refine ⟨u, k1, k3, fun hne => ⟨v, k2.1, ?_⟩⟩
      cases hc : l.2.2 with
      | nil => exact absurd hc hne
      | cons x c =>
        rw [hc] at hr
        unfold oz_hd
        rw [hr]
  obtain ⟨u, r1, r2, r3⟩ := run
  have last : (if nI (oz_fl P).length = nI ((oz_fl P).length + l.2.2.length) then some (true, u) else lf_ck (nI 0) 24 (fun k12 => (if (u.1 (q + 5) k12) = nI 0 then some (false, u) else some (true, u)))) = some (oz_hd (oz_ga a i) l.2.2, u) := by
    by_cases hne : l.2.2 = []
    · rw [hne]
      rw [if_pos (show nI (oz_fl P).length = nI ((oz_fl P).length + [].length) from rfl)]
      rfl
    · obtain ⟨v, v1, v2⟩ := r3 hne
      have hlen : 0 < l.2.2.length := List.length_pos_iff.mpr hne
      rw [if_neg (by rw [oz_eq (by omega) (by omega)]; omega), oz_ck (by omega) (by omega), v1, v2]
      by_cases cv : v = nI 0
      · rw [if_pos cv, cv]
        have : decide (nI 0 ≠ (0 : Int32)) = false := by decide +kernel
        rw [this]
      · rw [if_neg cv, decide_eq_true (show v ≠ 0 from cv)]
  refine ⟨u, ?_, r2⟩
  unfold f_Law_holds
  simp only [lf_lt]
  rw [pl_0]
  by_cases hP : P.length = 0
  · have e0 : oz_fl P = [] := by
      cases P with
      | nil => rfl
      | cons x P => exact absurd hP (Nat.succ_ne_zero _)
    rw [if_pos (show nI P.length = nI 0 by rw [hP]), oz_ck (by omega) (by omega), en]
    rw [e0] at r1 last ⊢
    have r1' : f_Law_holds_33 q b (nI i) (nI 0) (nI (0 + l.2.2.length)) 5000 (nI 0) (nI 0) s = some u := r1
    show (f_Law_holds_33 q b (nI i) (nI 0) (nI (0 + l.2.2.length)) 5000 (nI 0) (nI 0) s).bind _ = _
    rw [r1', Option.bind_some]
    exact last
  · rw [if_neg (show ¬ (nI P.length = nI 0) by rw [oz_eq (by omega) (by omega)]; exact hP), pl_1, oz_sub (by omega), oz_ck (by omega) (by omega), oz_ck (by omega) (by omega), bg hP, en, r1, Option.bind_some]
    exact last
theorem c_sumLoop (V : oz_V a) (hq : b + 24 ≤ q ∨ q + 6 ≤ b) (hi : i < a 3) {k : Nat} (hk : k < 3) : ∀ (M P : List (Nat × Nat × List Nat)) (s : lf_S) x fuel, oz_C s b a → oz_CL2 s q (P ++ M) → oz_wfL (P ++ M) → (oz_fl (P ++ M)).length ≤ 400 → M.length < fuel → ∃ u, f_Law_sumOf_6 q b (nI k) (nI i) fuel (nI x) (nI P.length) s = some (nI (x + oz_sun (oz_ga a i) k M), u) ∧ oz_fr (fun p => p = q + 5) s u := by
  intro M
  induction M with
  | nil =>
    intro P s x fuel C hL hw h400 hf
    obtain ⟨fuel, rfl⟩ : ∃ m, fuel = m + 1 := ⟨fuel - 1, by omega⟩
    have h0 := hL.1
    have h12 := hL.2.1
    rw [List.append_nil] at h0 h12
    rw [f_Law_sumOf_6, h0, oz_ile_t (Nat.le_refl _) (by omega)]
    exact ⟨s, rfl, oz_fr_rf⟩
  | cons l M ih =>
    intro P s x fuel C hL hw h400 hf
    obtain ⟨fuel, rfl⟩ : ∃ m, fuel = m + 1 := ⟨fuel - 1, by omega⟩
    have h0 := hL.1
    have h12 := hL.2.1
    have len0 : (P ++ l :: M).length = P.length + (M.length + 1) := by rw [List.length_append]; rfl
    have hr := hL.2.2.2 P.length (by omega)
    have gd : (P ++ l :: M).getD P.length (0, 0, []) = l := by
      rw [List.getD_eq_getElem?_getD, List.getElem?_append_right (Nat.le_refl _), Nat.sub_self]
      rfl
    rw [gd] at hr
    have wl := hw l (List.mem_append_right _ (List.mem_cons_self ..))
    have hf' : M.length + 1 < fuel + 1 := hf
    have ap : (P ++ [l]) ++ M = P ++ l :: M := by rw [List.append_assoc]; rfl
    have next : ∀ (t : lf_S) y, oz_fr (fun p => p = q + 5) s t → ∃ u, f_Law_sumOf_6 q b (nI k) (nI i) fuel (nI y) (nI (P.length + 1)) t = some (nI (y + oz_sun (oz_ga a i) k M), u) ∧ oz_fr (fun p => p = q + 5) s u := by
      intro t y ft
      have Ct : oz_C t b a := oz_C_fr V C (fun p p1 p2 => ft.1 p (by omega))
      have Lt : oz_CL2 t q ((P ++ [l]) ++ M) := by rw [ap]; exact oz_CL2_fr hL (fun p p1 p2 => ft.1 p (by omega))
      obtain ⟨u, k1, k2⟩ := ih (P ++ [l]) t y fuel Ct Lt (by rw [ap]; exact hw) (by rw [ap]; exact h400) (by omega)
      rw [show (P ++ [l]).length = P.length + 1 by rw [List.length_append]; rfl] at k1
      exact ⟨u, k1, oz_fr_tr ft k2⟩
    have es : oz_sun (oz_ga a i) k (l :: M) = (if l.1 = k ∧ oz_hd (oz_ga a i) l.2.2 = true then l.2.1 else 0) + oz_sun (oz_ga a i) k M := rfl
    rw [f_Law_sumOf_6, h0, len0, oz_ile_f (by omega) (by omega), oz_ck (by omega) (by omega), hr.1, es]
    by_cases ck : l.1 = k
    · rw [if_pos (show nI l.1 = nI k by rw [ck])]
      obtain ⟨u1, d1, d2⟩ := c_holds V C hq hi hL wl.2.2 h400
      rw [d1, Option.bind_some]
      by_cases hd : oz_hd (oz_ga a i) l.2.2 = true
      · have e2 : u1.1 (q + 2) P.length = nI l.2.1 := by rw [d2.1 (q + 2) (by omega)]; exact hr.2.1
        rw [if_pos (show (oz_hd (oz_ga a i) l.2.2, u1).1 = true from hd), if_pos (show l.1 = k ∧ oz_hd (oz_ga a i) l.2.2 = true from ⟨ck, hd⟩)]
        try dsimp only
        rw [oz_ck (by omega) (by omega), e2, nI_add]
        simp only [lf_lt, pl_1, nI_add]
        rw [← Nat.add_assoc]
        exact next u1 (x + l.2.1) d2
      · rw [if_neg (show ¬ ((oz_hd (oz_ga a i) l.2.2, u1).1 = true) from hd), if_neg (fun z : l.1 = k ∧ oz_hd (oz_ga a i) l.2.2 = true => hd z.2), Nat.zero_add]
        simp only [lf_lt, pl_1, nI_add]
        exact next u1 x d2
    · rw [if_neg (show ¬ (nI l.1 = nI k) by rw [oz_eq (by omega) (by omega)]; exact ck), if_neg (fun z : l.1 = k ∧ oz_hd (oz_ga a i) l.2.2 = true => ck z.1), Nat.zero_add]
      simp only [lf_lt, pl_1, nI_add]
      exact next s x oz_fr_rf
end
