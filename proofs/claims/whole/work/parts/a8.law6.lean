/-! ===== the law's lines, the model's ===== -/
def oz_lq (k n b : Int32) (s : lf_S) : Option lf_S := (if (s.1 389 12) = (-1 : Int32) then (if b = 0 then some s else (if k = 0 then lf_lt (lf_w s 389 15 ((s.1 389 15) + n)) (fun s144 => (if k = (2 : Int32) then lf_lt (lf_w s144 389 16 ((s144.1 389 16) + n)) (fun s146 => some s146) else lf_lt (lf_w s144 389 16 ((s144.1 389 16) + (0 : Int32))) (fun s145 => some s145))) else (if k = (1 : Int32) then lf_lt (lf_w s 389 15 ((s.1 389 15) + (-n))) (fun s141 => (if k = (2 : Int32) then lf_lt (lf_w s141 389 16 ((s141.1 389 16) + n)) (fun s143 => some s143) else lf_lt (lf_w s141 389 16 ((s141.1 389 16) + (0 : Int32))) (fun s142 => some s142))) else lf_lt (lf_w s 389 15 ((s.1 389 15) + (0 : Int32))) (fun s138 => (if k = (2 : Int32) then lf_lt (lf_w s138 389 16 ((s138.1 389 16) + n)) (fun s140 => some s140) else lf_lt (lf_w s138 389 16 ((s138.1 389 16) + (0 : Int32))) (fun s139 => some s139)))))) else some s)
def oz_lwt (k : Int32) (s : lf_S) : Option lf_S := (if k = (-1 : Int32) then (f_Mod_wrong (s.1 389 11) s).bind (fun p147 => some p147) else (f_Mod_figures (0 : Int32) (99 : Int32) s).bind (fun p113 => lf_lt p113.1 (fun y114 => (if (p113.2.1 389 12) = (-1 : Int32) then (f_Mod_has 31 p113.2).bind (fun p115 => (if p115.1 = true then (f_Mod_some p115.2).bind (fun p126 => (if p126.1 = true then lf_lt (1 : Int32) (fun y137 => oz_lq k y114 y137 p126.2) else lf_lt (0 : Int32) (fun y127 => oz_lq k y114 y127 p126.2))) else lf_lt (1 : Int32) (fun y116 => oz_lq k y114 y116 p115.2))) else some p113.2))))
theorem oz_lawLine0 {s : lf_S} : f_Mod_lawLine s = (f_Mod_has 28 s).bind (fun p1 => (if p1.1 = true then lf_lt (0 : Int32) (fun y => oz_lwt y p1.2) else (f_Mod_has 29 p1.2).bind (fun p2 => (if p2.1 = true then lf_lt (1 : Int32) (fun y => oz_lwt y p2.2) else (f_Mod_has 30 p2.2).bind (fun p3 => (if p3.1 = true then lf_lt (2 : Int32) (fun y => oz_lwt y p3.2) else lf_lt (-1 : Int32) (fun y => oz_lwt y p3.2))))))) := rfl
/-- whether a line holds, by its code -/
def oz_hd (g : Nat → Int32) (c : List Nat) : Bool := match c with
  | [] => true
  | _ => match oz_rn g c [] with
    | some (v :: _) => decide (v ≠ 0)
    | _ => false
theorem oz_hd_v {g : Nat → Int32} {B : Nat} {c : List Nat} {b : Bool} (h : oz_one g B c (oz_bi b)) (hc : c ≠ []) : oz_hd g c = b := by
  have e := h [] (Nat.zero_le _)
  cases c with
  | nil => exact absurd rfl hc
  | cons x c =>
    unfold oz_hd
    rw [e]
    show decide (oz_bi b ≠ 0) = b
    cases b <;> decide +kernel
/-- what the lines do to reach and cost -/
def oz_fs (k n : Nat) (x : Int32 × Int32) : Int32 × Int32 := (x.1 + (if k = 0 then nI n else if k = 1 then -nI n else 0), x.2 + (if k = 2 then nI n else 0))
def oz_fo (g : Nat → Int32) : List (Nat × Nat × List Nat) → Int32 × Int32 → Int32 × Int32
  | [], x => x
  | l :: L, x => oz_fo g L (if oz_hd g l.2.2 = true then oz_fs l.1 l.2.1 x else x)
/-- only what the reading of a law may change -/
def oz_fe (s t : lf_S) : Prop := oz_fr (fun p => p = 389) s t ∧ ∀ j, j ≠ 11 → j ≠ 12 → j ≠ 15 → j ≠ 16 → t.1 389 j = s.1 389 j
theorem oz_fe_of {s t : lf_S} (h : oz_fm s t) : oz_fe s t := ⟨h.1, fun j h1 h2 _ _ => h.2 j h1 h2⟩
theorem oz_fe_tr {s t u : lf_S} (h : oz_fe s t) (k : oz_fe t u) : oz_fe s u := ⟨oz_fr_tr h.1 k.1, fun j h1 h2 h3 h4 => (k.2 j h1 h2 h3 h4).trans (h.2 j h1 h2 h3 h4)⟩
theorem oz_fe_w {s : lf_S} {j : Nat} {v : Int32} (h : j = 11 ∨ j = 12 ∨ j = 15 ∨ j = 16) : oz_fe s (lf_w s 389 j v) := ⟨oz_fr_w rfl, fun i h1 h2 h3 h4 => oz_w_n (by omega)⟩
theorem oz_gm_fe {s t : lf_S} (f : oz_fe s t) : oz_gm t = oz_gm s := by
  unfold oz_gm
  rw [f.1.1 390 (by omega), f.1.1 395 (by omega)]
theorem oz_jn_ne {T : Nat → Nat} {len w x : Nat} {A : (Nat ⊕ Nat) → List Nat × (Nat ⊕ Nat)} {st : Nat ⊕ Nat} (h : (A st).1 ≠ []) : (oz_jn T len w x A st).1 ≠ [] := by
  unfold oz_jn
  intro e
  have e' : (A st).1 ++ (oz_jnL T len w x A 401 (A st).2).1 = [] := e
  rw [List.append_eq_nil_iff] at e'
  exact h e'.1
theorem oz_pln_ne {T : Nat → Nat} {len : Nat} {st : Nat ⊕ Nat} : (oz_pln T len st).1 ≠ [] := by
  have s : ∀ st, (oz_smP T len st).1 ≠ [] := fun st e => nomatch e
  unfold oz_pln
  split
  · exact fun e => nomatch e
  · split
    · exact fun e => nomatch e
    · split
      · exact fun e => nomatch e
      · unfold oz_cmp
        split
        · intro e
          have e' : (oz_smP T len st).1 ++ _ = [] := e
          rw [List.append_eq_nil_iff] at e'
          exact s st e'.1
        · split
          · intro e
            have e' : (oz_smP T len st).1 ++ _ = [] := e
            rw [List.append_eq_nil_iff] at e'
            exact s st e'.1
          · exact s st
theorem oz_atm_ne {T : Nat → Nat} {len : Nat} : ∀ r (st : Nat ⊕ Nat), (oz_atm T len r st).1 ≠ [] := by
  intro r
  induction r with
  | zero => intro st; exact oz_pln_ne
  | succ r ih =>
    intro st
    unfold oz_atm
    split
    · intro e
      have e' : (oz_atm T len r (oz_toW T len 60 st)).1 ++ _ = [] := e
      rw [List.append_eq_nil_iff] at e'
      exact ih _ e'.1
    · split
      · exact oz_jn_ne (oz_jn_ne (ih _))
      · exact oz_pln_ne
theorem oz_cnd_ne {T : Nat → Nat} {len : Nat} {st : Nat ⊕ Nat} : (oz_cnd T len st).1 ≠ [] := oz_jn_ne (oz_jn_ne (oz_atm_ne 6 st))
section
variable {s : lf_S} {T : Nat → Nat} {len : Nat}
theorem oz_MY_fe {d : Nat} {st : Nat ⊕ Nat} {j : Nat} {v : Int32} (X : oz_MY s T len d st) (h : j = 15 ∨ j = 16) : oz_MY (lf_w s 389 j v) T len d st := by
  obtain ⟨h1, h2, h3, h4, h5⟩ := X
  refine ⟨(oz_w_n (by omega)).trans h1, h2, h3, ?_, ?_⟩
  · rcases h4 with ⟨g1, g2⟩ | ⟨g1, g2⟩
    · exact Or.inl ⟨(oz_w_n (by omega)).trans g1, fun i hi => by rw [oz_w_o (by omega)]; exact g2 i hi⟩
    · exact Or.inr ⟨(oz_w_n (by omega)).trans g1, fun i hi => by rw [oz_w_o (by omega)]; exact g2 i hi⟩
  · cases st with
    | inl q =>
      obtain ⟨g1, g2, m, g3, g4⟩ := h5
      exact ⟨(oz_w_n (by omega)).trans g1, g2, m, g3, (oz_w_n (by omega)).trans g4⟩
    | inr p =>
      obtain ⟨g1, m, g3, g4, g5⟩ := h5
      exact ⟨(oz_w_n (by omega)).trans g1, m, g3, (oz_w_n (by omega)).trans g4, g5⟩
theorem m_lq {st : Nat ⊕ Nat} {k n : Nat} {b : Bool} (hk : k < 3) (X : oz_MY s T len 6 st) {v : Int32} (hv : st.isRight = true → v = nI n) : ∃ u, oz_lq (nI k) v (oz_bi b) s = some u ∧ oz_MY u T len 6 st ∧ oz_fe s u ∧ (st.isRight = true → (u.1 389 15, u.1 389 16) = if b = true then oz_fs k n (s.1 389 15, s.1 389 16) else (s.1 389 15, s.1 389 16)) := by
  unfold oz_lq
  rw [show (-1 : Int32) = oz_N from rfl]
  cases st with
  | inl q =>
    rw [if_neg (oz_atY X)]
    exact ⟨s, rfl, X, ⟨oz_fr_rf, fun _ _ _ _ _ => rfl⟩, fun h => Bool.noConfusion h⟩
  | inr p =>
    rw [if_pos (oz_at (oz_MY_r X)), hv rfl]
    cases b with
    | false =>
      rw [if_pos (show oz_bi false = 0 from rfl)]
      exact ⟨s, rfl, X, ⟨oz_fr_rf, fun _ _ _ _ _ => rfl⟩, fun _ => rfl⟩
    | true =>
      rw [if_neg (show ¬ (oz_bi true = 0) by decide +kernel)]
      have fin : ∀ x y : Int32, oz_MY (lf_w (lf_w s 389 15 x) 389 16 y) T len 6 (Sum.inr p) ∧ oz_fe s (lf_w (lf_w s 389 15 x) 389 16 y) := fun x y => ⟨oz_MY_fe (oz_MY_fe X (Or.inl rfl)) (Or.inr rfl), oz_fe_tr (oz_fe_w (by omega)) (oz_fe_w (by omega))⟩
      simp only [lf_lt, if_true]
      by_cases c0 : k = 0
      · subst c0
        rw [if_pos (show nI 0 = (0 : Int32) from rfl), if_neg (show ¬ (nI 0 = (2 : Int32)) by decide +kernel), oz_w_n (by omega)]
        refine ⟨_, rfl, (fin _ _).1, (fin _ _).2, fun _ => ?_⟩
        rw [oz_w_n (by omega), oz_w_s, oz_w_s]
        rfl
      · rw [if_neg (show ¬ (nI k = (0 : Int32)) by rw [pl_0, oz_eq (by omega) (by omega)]; exact c0)]
        by_cases c1 : k = 1
        · subst c1
          rw [if_pos (show nI 1 = (1 : Int32) from rfl), if_neg (show ¬ (nI 1 = (2 : Int32)) by decide +kernel), oz_w_n (by omega)]
          refine ⟨_, rfl, (fin _ _).1, (fin _ _).2, fun _ => ?_⟩
          rw [oz_w_n (by omega), oz_w_s, oz_w_s]
          rfl
        · obtain rfl : k = 2 := by omega
          rw [if_neg (show ¬ (nI 2 = (1 : Int32)) by decide +kernel), if_pos (show nI 2 = (2 : Int32) from rfl), oz_w_n (by omega)]
          refine ⟨_, rfl, (fin _ _).1, (fin _ _).2, fun _ => ?_⟩
          rw [oz_w_n (by omega), oz_w_s, oz_w_s]
          rfl
theorem m_lwt {st : Nat ⊕ Nat} {k p : Nat} (hk : k < 3) (X : oz_MX s T len st) (hst : st = (oz_knd T len (Sum.inr p)).2) (hkk : k = (oz_knd T len (Sum.inr p)).1) (h13 : s.1 389 13 = nI 0) : ∃ u, oz_lwt (nI k) s = some u ∧ oz_MY u T len 6 (oz_l2 T len p).2 ∧ oz_fe s u ∧ ((oz_l2 T len p).2.isRight = true → (u.1 389 15, u.1 389 16) = if oz_hd (oz_gm s) (oz_l2 T len p).1 = true then oz_fs (oz_lln T len p).1 (oz_lln T len p).2.1 (s.1 389 15, s.1 389 16) else (s.1 389 15, s.1 389 16)) := by
  have e1 : oz_l1 T len p = oz_nmS T len 0 (nI 99) st := by rw [hst]; rfl
  have en : (oz_lln T len p).2.1 = oz_nmV T len 0 (nI 99) st := by rw [hst]; rfl
  have ek : (oz_lln T len p).1 = k := hkk.symm
  obtain ⟨v, u1, a1, a2, a3, a4⟩ := m_figures X (lo := 0) (hi := nI 99) (by omega)
  rw [← e1] at a2 a4
  unfold oz_lwt
  rw [show (-1 : Int32) = oz_N from rfl, if_neg (of_eq_false (oz_eqm1 (a := k) (by omega))), pl_0, pl_99, a1, Option.bind_some]
  simp only [lf_lt]
  have e2 : oz_l2 T len p = if oz_isW T len 54 (oz_l1 T len p) = true then oz_cnd T len (oz_toW T len 54 (oz_l1 T len p)) else ([], oz_l1 T len p) := rfl
  rw [ek, en]
  cases hs : oz_l1 T len p with
  | inl q =>
    rw [hs] at a2 e2
    have e2' : oz_l2 T len p = ([], Sum.inl q) := e2
    rw [if_neg (oz_atl a2), e2']
    exact ⟨u1, rfl, oz_MY_of a2, oz_fe_of a3, fun h => Bool.noConfusion h⟩
  | inr p1 =>
    rw [hs] at a2 e2
    rw [if_pos (oz_at a2)]
    have ev := a4 p1 hs
    have w := m_fact a2 (t := 31) (c := 54) (k := 0) (by decide +kernel) (by decide +kernel) (by decide +kernel)
    by_cases c : oz_isW T len 54 (Sum.inr p1) = true
    · rw [if_pos c] at e2
      obtain ⟨u2, b1, b2, b3⟩ := w.1 c
      have f2 := oz_fm_tr a3 b3
      have et := oz_toW_t (show oz_wd T len 54 p1 = true from c)
      rw [et] at b2 e2
      obtain ⟨y, u3, d1, d2, d3, d4⟩ := m_cond u2 _ b2 (by rw [f2.2 13 (by omega) (by omega)]; exact h13)
      have f3 := oz_fm_tr f2 d3
      rw [← e2] at d2 d4
      rw [oz_tkt b1]
      try dsimp only
      rw [d1, Option.bind_some]
      obtain ⟨u, i1, i2, i3, i4⟩ := m_lq (k := k) (n := oz_nmV T len 0 (nI 99) st) (b := y) hk d2 (v := v) (fun _ => ev)
      refine ⟨u, ?_, i2, oz_fe_tr (oz_fe_of f3) i3, fun hr => ?_⟩
      · cases y with
        | true => rw [if_pos (show true = true from rfl)]; exact i1
        | false => rw [if_neg (show ¬ (false = true) from Bool.noConfusion)]; exact i1
      · have o := d4 hr
        rw [oz_gm_fm f2] at o
        rw [oz_hd_v o (by rw [e2]; exact oz_cnd_ne), i4 hr, f3.2 15 (by omega) (by omega), f3.2 16 (by omega) (by omega)]
    · rw [if_neg c] at e2
      obtain ⟨u2, b1, b2, b3, b4⟩ := w.2 (by cases h : oz_wd T len 54 p1 with
        | false => rfl
        | true => exact absurd h c)
      have f2 := oz_fm_tr a3 b3
      rw [oz_tkf b1, e2]
      obtain ⟨u, i1, i2, i3, i4⟩ := m_lq (k := k) (n := oz_nmV T len 0 (nI 99) st) (b := true) hk (oz_MY_of b2) (v := v) (fun _ => ev)
      refine ⟨u, i1, i2, oz_fe_tr (oz_fe_of f2) i3, fun hr => ?_⟩
      rw [i4 rfl, f2.2 15 (by omega) (by omega), f2.2 16 (by omega) (by omega)]
      rfl
theorem m_lawLine {p : Nat} (X : oz_MX s T len (Sum.inr p)) (h13 : s.1 389 13 = nI 0) : ∃ u, f_Mod_lawLine s = some u ∧ oz_MY u T len 6 (oz_l2 T len p).2 ∧ oz_fe s u ∧ ((oz_l2 T len p).2.isRight = true → (u.1 389 15, u.1 389 16) = if oz_hd (oz_gm s) (oz_l2 T len p).1 = true then oz_fs (oz_lln T len p).1 (oz_lln T len p).2.1 (s.1 389 15, s.1 389 16) else (s.1 389 15, s.1 389 16)) := by
  have go : ∀ (v : lf_S) (o : Option lf_S), oz_fm s v → (∃ u, o = some u ∧ oz_MY u T len 6 (oz_l2 T len p).2 ∧ oz_fe v u ∧ ((oz_l2 T len p).2.isRight = true → (u.1 389 15, u.1 389 16) = if oz_hd (oz_gm v) (oz_l2 T len p).1 = true then oz_fs (oz_lln T len p).1 (oz_lln T len p).2.1 (v.1 389 15, v.1 389 16) else (v.1 389 15, v.1 389 16))) → ∃ u, o = some u ∧ oz_MY u T len 6 (oz_l2 T len p).2 ∧ oz_fe s u ∧ ((oz_l2 T len p).2.isRight = true → (u.1 389 15, u.1 389 16) = if oz_hd (oz_gm s) (oz_l2 T len p).1 = true then oz_fs (oz_lln T len p).1 (oz_lln T len p).2.1 (s.1 389 15, s.1 389 16) else (s.1 389 15, s.1 389 16)) := by
    intro v o fv h
    obtain ⟨u, h1, h2, h3, h4⟩ := h
    rw [oz_gm_fm fv, fv.2 15 (by omega) (by omega), fv.2 16 (by omega) (by omega)] at h4
    exact ⟨u, h1, h2, oz_fe_tr (oz_fe_of fv) h3, h4⟩
  have ek : oz_knd T len (Sum.inr p) = if oz_wd T len 55 p = true then (0, oz_toW T len 55 (Sum.inr p)) else if oz_wd T len 56 p = true then (1, oz_toW T len 56 (Sum.inr p)) else (2, oz_ndW T len 57 (Sum.inr p)) := rfl
  rw [oz_lawLine0]
  simp only [lf_lt]
  have w0 := m_fact X (t := 28) (c := 55) (k := 0) (by decide +kernel) (by decide +kernel) (by decide +kernel)
  by_cases c0 : oz_wd T len 55 p = true
  · rw [if_pos c0] at ek
    obtain ⟨u, k1, k2, k3⟩ := w0.1 c0
    rw [oz_tkt k1]
    exact go u _ k3 (m_lwt (k := 0) (by omega) k2 (by rw [ek]) (by rw [ek]) (by rw [k3.2 13 (by omega) (by omega)]; exact h13))
  obtain ⟨u0, k0, x0, f0, y0⟩ := w0.2 (by cases h : oz_wd T len 55 p with
    | false => rfl
    | true => exact absurd h c0)
  rw [if_neg c0] at ek
  rw [oz_tkf k0]
  have w1 := m_fact x0 (t := 29) (c := 56) (k := 0) (by decide +kernel) (by decide +kernel) (by decide +kernel)
  by_cases c1 : oz_wd T len 56 p = true
  · rw [if_pos c1] at ek
    obtain ⟨u, k1, k2, k3⟩ := w1.1 c1
    have f := oz_fm_tr f0 k3
    rw [oz_tkt k1]
    exact go u _ f (m_lwt (k := 1) (by omega) k2 (by rw [ek]) (by rw [ek]) (by rw [f.2 13 (by omega) (by omega)]; exact h13))
  obtain ⟨u1, k1, x1, f1, y1⟩ := w1.2 (by cases h : oz_wd T len 56 p with
    | false => rfl
    | true => exact absurd h c1)
  have g1 := oz_fm_tr f0 f1
  rw [if_neg c1] at ek
  rw [oz_tkf k1]
  have w2 := m_fact x1 (t := 30) (c := 57) (k := 0) (by decide +kernel) (by decide +kernel) (by decide +kernel)
  have e57 : oz_ndW T len 57 (Sum.inr p) = if oz_wd T len 57 p = true then oz_toW T len 57 (Sum.inr p) else Sum.inl p := rfl
  by_cases c2 : oz_wd T len 57 p = true
  · rw [if_pos c2] at e57
    rw [e57] at ek
    obtain ⟨u, k2, k3, k4⟩ := w2.1 c2
    have f := oz_fm_tr g1 k4
    rw [oz_tkt k2]
    exact go u _ f (m_lwt (k := 2) (by omega) k3 (by rw [ek]) (by rw [ek]) (by rw [f.2 13 (by omega) (by omega)]; exact h13))
  obtain ⟨u2, k2, x2, f2, y2⟩ := w2.2 (by cases h : oz_wd T len 57 p with
    | false => rfl
    | true => exact absurd h c2)
  have g2 := oz_fm_tr g1 f2
  rw [if_neg c2] at e57
  rw [e57] at ek
  have hp := oz_MX_p X
  have l400 := X.2.1
  obtain ⟨u3, i1, i2, i3⟩ := m_wrongQ x2 (q := p) (by omega)
  have e1 : oz_l2 T len p = ([], Sum.inl p) := by
    unfold oz_l2 oz_l1
    rw [ek]
    rfl
  rw [oz_tkf k2, e1]
  unfold oz_lwt
  rw [if_pos (show (-1 : Int32) = (-1 : Int32) from rfl)]
  try dsimp only
  rw [y2, i1, Option.bind_some]
  exact ⟨u3, rfl, oz_MY_of i2, oz_fe_of (oz_fm_tr g2 i3), fun h => Bool.noConfusion h⟩
theorem m_skipY {d q : Nat} (X : oz_MY s T len d (Sum.inl q)) (hd : d ≤ 100) : ∃ t, f_Mod_skip s = some t ∧ oz_MY t T len d (Sum.inl q) ∧ oz_fm s t := by
  have X' := X
  obtain ⟨h1, h2, h3, h4, g1, g2, m, g3, g4⟩ := X
  by_cases c : m ≤ len
  · have X0 : oz_MX s T len (Sum.inl q) := ⟨h1, h2, h3, h4, g1, g2, m, c, g4⟩
    obtain ⟨t, k1, k2, k3, _⟩ := m_skip X0
    exact ⟨t, k1, oz_MY_of k2, k3⟩
  · refine ⟨s, ?_, X', oz_fm_rf⟩
    unfold f_Mod_skip
    rw [f_Mod_skip_0, g4, h1, oz_ile_t (by omega) (by omega), Option.bind_some]
theorem m_lawLoop : ∀ k p (s : lf_S) n fuel, n + k = 12 → k + 2 < fuel → oz_MX s T len (Sum.inr p) → s.1 389 13 = nI 0 → ∃ m u, f_Mod_read_23 (1 : Int32) fuel (nI 1) (nI n) s = some (m, u) ∧ oz_MY u T len 6 (oz_lrd T len k p).2 ∧ oz_fe s u ∧ ((oz_lrd T len k p).2.isRight = true → m = nI (n + (oz_lrd T len k p).1.length) ∧ (u.1 389 15, u.1 389 16) = oz_fo (oz_gm s) (oz_lrd T len k p).1 (s.1 389 15, s.1 389 16)) := by
  have n10 : ¬ (nI 1 = (0 : Int32)) := by decide +kernel
  intro k
  induction k with
  | zero =>
    intro p s n fuel hn hf X h13
    obtain ⟨fuel, rfl⟩ : ∃ m, fuel = m + 2 := ⟨fuel - 2, by omega⟩
    obtain rfl : n = 12 := by omega
    have l400 := X.2.1
    have hp := oz_MX_p X
    obtain ⟨v1, k1, k2, k3, k4⟩ := m_skip X
    have hy := (k4 p rfl).1
    obtain ⟨v2, d1, d2, d3⟩ := m_wrongQ k2 (q := p) (by omega)
    obtain ⟨v3, e1, e2, e3, e4⟩ := m_skip d2
    refine ⟨nI 13, v3, ?_, oz_MY_of e2, oz_fe_of (oz_fm_tr k3 (oz_fm_tr d3 e3)), fun h => Bool.noConfusion h⟩
    rw [f_Mod_read_23, if_neg n10, show (-1 : Int32) = oz_N from rfl, if_pos (oz_at X), k1, Option.bind_some, if_neg (show ¬ ((1 : Int32) = 0) by decide +kernel), pl_12, if_pos rfl, hy, d1, Option.bind_some]
    simp only [lf_lt, pl_1, nI_add]
    rw [e1, Option.bind_some, if_neg (oz_atl e2)]
    rw [f_Mod_read_23, if_pos rfl]
  | succ k ih =>
    intro p s n fuel hn hf X h13
    obtain ⟨fuel, rfl⟩ : ∃ m, fuel = m + 1 := ⟨fuel - 1, by omega⟩
    obtain ⟨v1, k1, k2, k3, k4⟩ := m_skip X
    obtain ⟨u1, d1, d2, d3, d4⟩ := m_lawLine k2 (by rw [k3.2 13 (by omega) (by omega)]; exact h13)
    rw [oz_gm_fm k3, k3.2 15 (by omega) (by omega), k3.2 16 (by omega) (by omega)] at d4
    have f1 := oz_fe_tr (oz_fe_of k3) d3
    rw [f_Mod_read_23, if_neg n10, show (-1 : Int32) = oz_N from rfl, if_pos (oz_at X), k1, Option.bind_some, if_neg (show ¬ ((1 : Int32) = 0) by decide +kernel), pl_12, if_neg (by rw [oz_eq (by omega) (by omega)]; omega), if_neg (show ¬ ((1 : Int32) = 0) by decide +kernel), d1, Option.bind_some]
    simp only [lf_lt, pl_1, nI_add]
    cases hx : (oz_l2 T len p).2 with
    | inl q =>
      rw [hx] at d2
      obtain ⟨v2, e1, e2, e3⟩ := m_skipY d2 (by omega)
      rw [oz_lrd_l hx, e1, Option.bind_some, if_neg (oz_atY e2)]
      obtain ⟨fuel, rfl⟩ : ∃ m, fuel = m + 1 := ⟨fuel - 1, by omega⟩
      rw [f_Mod_read_23, if_pos rfl]
      exact ⟨_, v2, rfl, e2, oz_fe_tr f1 (oz_fe_of e3), fun h => Bool.noConfusion h⟩
    | inr p' =>
      rw [hx] at d2 d4
      have d4' := d4 rfl
      obtain ⟨v2, e1, e2, e3, e4⟩ := m_skip (oz_MY_r d2)
      have h11 := (e4 p' rfl).1
      have f2 := oz_fe_tr f1 (oz_fe_of e3)
      have hp2 := oz_MX_p e2
      have st1 : (v2.1 389 15, v2.1 389 16) = if oz_hd (oz_gm s) (oz_lln T len p).2.2 = true then oz_fs (oz_lln T len p).1 (oz_lln T len p).2.1 (s.1 389 15, s.1 389 16) else (s.1 389 15, s.1 389 16) := by
        rw [e3.2 15 (by omega) (by omega), e3.2 16 (by omega) (by omega)]; exact d4'
      rw [oz_lrd_r hx, e1, Option.bind_some, if_pos (oz_at e2)]
      by_cases c : len ≤ p'
      · rw [if_pos c, if_pos ((oz_end e2 h11).symm ▸ c)]
        obtain ⟨fuel, rfl⟩ : ∃ m, fuel = m + 1 := ⟨fuel - 1, by omega⟩
        rw [f_Mod_read_23, if_pos (show (0 : Int32) = 0 from rfl)]
        exact ⟨_, v2, rfl, oz_MY_of e2, f2, fun _ => ⟨rfl, st1⟩⟩
      · rw [if_neg c, if_neg (by rw [oz_end e2 h11]; exact c)]
        obtain ⟨v3, g1, g2, g3, g4⟩ := m_isSign e2 (c := 59) (by omega)
        have f3 := oz_fe_tr f2 (oz_fe_of g3)
        have ei : oz_isG T len 59 (Sum.inr p') = decide (p' < len ∧ T p' = 59) := rfl
        rw [ei] at g1
        rw [pl_59]
        by_cases c2 : T p' = 59
        · rw [decide_eq_true (show p' < len ∧ T p' = 59 from ⟨by omega, c2⟩)] at g1
          rw [if_pos c2, oz_tkt g1]
          have X3 := oz_MX_up1 g2 g4 (by omega)
          have f4 := oz_fe_tr f3 (oz_fe_w (s := v3) (j := 11) (v := nI (p' + 1)) (Or.inl rfl))
          obtain ⟨m, u, j1, j2, j3, j4⟩ := ih (oz_sb T len (p' + 1)) (lf_w v3 389 11 (nI (p' + 1))) (n + 1) fuel (by omega) (by omega) X3 (by rw [f4.2 13 (by omega) (by omega) (by omega) (by omega)]; exact h13)
          refine ⟨m, u, ?_, j2, oz_fe_tr f4 j3, fun hr => ?_⟩
          · try dsimp only
            rw [g4, nI_add]
            exact j1
          · obtain ⟨m1, m2⟩ := j4 hr
            rw [oz_gm_fe f4, oz_w_n (by omega), oz_w_n (by omega), g3.2 15 (by omega) (by omega), g3.2 16 (by omega) (by omega), st1] at m2
            refine ⟨?_, m2⟩
            rw [m1]
            show nI (n + 1 + _) = nI (n + ((oz_lrd T len k (oz_sb T len (p' + 1))).1.length + 1))
            rw [show n + 1 + (oz_lrd T len k (oz_sb T len (p' + 1))).1.length = n + ((oz_lrd T len k (oz_sb T len (p' + 1))).1.length + 1) by omega]
        · rw [decide_eq_false (show ¬ (p' < len ∧ T p' = 59) from fun z => c2 z.2)] at g1
          rw [if_neg c2, oz_tkf g1]
          have l400 := e2.2.1
          obtain ⟨v4, i1, i2, i3⟩ := m_wrongQ g2 (q := p') (by omega)
          refine ⟨nI (n + 1), v4, ?_, oz_MY_of i2, oz_fe_tr f3 (oz_fe_of i3), fun h => Bool.noConfusion h⟩
          try dsimp only
          rw [g4, i1, Option.bind_some]
          obtain ⟨fuel, rfl⟩ : ∃ m, fuel = m + 1 := ⟨fuel - 1, by omega⟩
          rw [f_Mod_read_23, if_neg n10, show (-1 : Int32) = oz_N from rfl, if_neg (oz_atl i2)]
theorem m_lawRead (X : oz_MX s T len (Sum.inr (oz_sb T len 0))) (h13 : s.1 389 13 = nI 0) : ∃ m u, f_Mod_read (1 : Int32) s = some (m, u) ∧ oz_MY u T len 6 (oz_lrA T len).2 ∧ oz_fe s u ∧ ((oz_lrA T len).2.isRight = true → m = nI (oz_lrA T len).1.length ∧ (u.1 389 15, u.1 389 16) = oz_fo (oz_gm s) (oz_lrA T len).1 (s.1 389 15, s.1 389 16)) := by
  obtain ⟨v, g1, g2, g3, g4⟩ := m_skip X
  obtain ⟨h11, hp, _⟩ := g4 _ rfl
  unfold f_Mod_read oz_lrA
  rw [g1, Option.bind_some, g2.1, h11]
  simp only [lf_lt]
  have l400 := X.2.1
  by_cases c : len ≤ oz_sb T len 0
  · rw [if_pos c, oz_ile_t c (by omega), f_Mod_read_23, if_pos rfl]
    exact ⟨_, v, rfl, oz_MY_of g2, oz_fe_of g3, fun _ => ⟨rfl, by rw [g3.2 15 (by omega) (by omega), g3.2 16 (by omega) (by omega)]; rfl⟩⟩
  · rw [if_neg c, oz_ile_f (by omega) (by omega)]
    obtain ⟨m, u, j1, j2, j3, j4⟩ := m_lawLoop (T := T) (len := len) 12 _ v 0 5000 rfl (by omega) g2 (by rw [g3.2 13 (by omega) (by omega)]; exact h13)
    rw [oz_gm_fm g3, g3.2 15 (by omega) (by omega), g3.2 16 (by omega) (by omega), Nat.zero_add] at j4
    rw [pl_0, pl_1, show nI 1 = (1 : Int32) from rfl]
    refine ⟨m, u, ?_, j2, oz_fe_tr (oz_fe_of g3) j3, j4⟩
    have j1' : f_Mod_read_23 (1 : Int32) 5000 (1 : Int32) (nI 0) v = some (m, u) := j1
    rw [j1', Option.bind_some]
end
