/-! ===== a line of a holt's text, the model's ===== -/
section
variable {s u : lf_S} {T : Nat → Nat} {len : Nat} {a : Nat → Nat}
theorem m_wrongQ {p q : Nat} (X : oz_MX s T len (Sum.inr p)) (hq : q ≤ 400) : ∃ t, f_Mod_wrong (nI q) s = some t ∧ oz_MX t T len (Sum.inl q) ∧ oz_fm s t := by
  obtain ⟨h1, h2, h3, h4, g1, m, g2, g3, g4⟩ := X
  unfold f_Mod_wrong
  rw [pl_1, oz_neg1, g1, if_pos rfl]
  refine ⟨_, rfl, ⟨(oz_w_n (by omega)).trans h1, h2, h3, oz_LT_fm h4 (oz_fm_w (Or.inr rfl)), ?_⟩, oz_fm_w (Or.inr rfl)⟩
  show (lf_w s 389 12 (nI q)).1 389 12 = nI q ∧ q ≤ 400 ∧ ∃ m, m ≤ len ∧ (lf_w s 389 12 (nI q)).1 389 11 = nI m
  exact ⟨oz_w_s, hq, m, g2, (oz_w_n (by omega)).trans g3⟩
theorem m_hasF {p t : Nat} (X : oz_MX (oz_md s a) T len (Sum.inr p)) (hl : oz_txl t = true) (ht : (mj_tx t).length ≤ 20) (hf : oz_wd T len t p = false) : ∃ u, f_Mod_has t (oz_md s a) = some (false, oz_md u a) ∧ oz_MX (oz_md u a) T len (Sum.inr p) ∧ oz_fm (oz_md s a) (oz_md u a) ∧ u.1 389 11 = nI p := by
  obtain ⟨v, k1, k2, k3, k4⟩ := m_has X t hl ht
  rw [oz_toW_f (show oz_isW T len t (Sum.inr p) = false from hf)] at k2
  obtain ⟨u, rfl⟩ : ∃ z, v = oz_md z a := ⟨v, oz_fm_md k3⟩
  rw [hf] at k1
  have e := k4 hf
  rw [oz_md_o (by omega)] at e
  exact ⟨u, k1, k2, k3, e⟩
theorem m_hasT {p t c : Nat} (X : oz_MX (oz_md s a) T len (Sum.inr p)) (hl : oz_txl t = true) (ht : (mj_tx t).length ≤ 20) (hc : mj_tx t = mj_tx c) (hf : oz_wd T len c p = true) : ∃ u, f_Mod_has t (oz_md s a) = some (true, oz_md u a) ∧ oz_MX (oz_md u a) T len (oz_toW T len c (Sum.inr p)) ∧ oz_fm (oz_md s a) (oz_md u a) := by
  obtain ⟨v, k1, k2, k3, k4⟩ := m_has X t hl ht
  rw [oz_toW_cg hc] at k2
  rw [oz_wd_cg hc, hf] at k1
  obtain ⟨u, rfl⟩ : ∃ z, v = oz_md z a := ⟨v, oz_fm_md k3⟩
  exact ⟨u, k1, k2, k3⟩
theorem m_bedFull {p q : Nat} (X : oz_MX (oz_md s a) T len (Sum.inr p)) (hn : a 3 = 6) (hq : q ≤ 400) : ∃ u, f_Mod_bedLine (nI q) (oz_md s a) = some (oz_md u a) ∧ oz_MX (oz_md u a) T len (Sum.inl q) ∧ oz_fm (oz_md s a) (oz_md u a) := by
  obtain ⟨u1, a1, a2, a3⟩ := m_wrongQ X hq
  obtain ⟨w2, u2, b1, b2, b3, b4⟩ := m_sortWord a2
  have e2 : (oz_srt T len (Sum.inl q)).2 = Sum.inl q := rfl
  rw [e2] at b2
  obtain ⟨w3, u3, d1, d2, d3, d4⟩ := m_after b2 3 (by decide +kernel) (by decide +kernel) (lo := 0) (hi := nI 9) (by omega)
  obtain ⟨w4, u4, e1, e2, e3, e4⟩ := m_after d2 4 (by decide +kernel) (by decide +kernel) (lo := 1) (hi := nI 99) (by omega)
  have f4 : oz_fm (oz_md s a) u4 := oz_fm_tr a3 (oz_fm_tr b3 (oz_fm_tr d3 e3))
  obtain ⟨u, rfl⟩ : ∃ z, u4 = oz_md z a := ⟨u4, oz_fm_md f4⟩
  have e2' : oz_MX (oz_md u a) T len (Sum.inl q) := e2
  have hat := oz_atl e2'
  refine ⟨u, ?_, e2', f4⟩
  unfold f_Mod_bedLine
  rw [pl_3, oz_ck (by omega) (by omega), oz_md_r, pl_6, if_pos (by rw [hn]), a1, Option.bind_some, show (-1 : Int32) = oz_N from rfl]
  simp only [lf_lt, pl_0, pl_1, pl_9, pl_99]
  rw [b1, Option.bind_some, d1, Option.bind_some, e1, Option.bind_some, if_neg hat, if_neg hat]
theorem m_handFull {p q : Nat} (X : oz_MX (oz_md s a) T len (Sum.inr p)) (hn : a 5 = 5) (hq : q ≤ 400) : ∃ u, f_Mod_handLine (nI q) (oz_md s a) = some (oz_md u a) ∧ oz_MX (oz_md u a) T len (Sum.inl q) ∧ oz_fm (oz_md s a) (oz_md u a) := by
  obtain ⟨u1, a1, a2, a3⟩ := m_wrongQ X hq
  obtain ⟨w3, u3, d1, d2, d3, d4⟩ := m_after a2 11 (by decide +kernel) (by decide +kernel) (lo := 1) (hi := nI 9) (by omega)
  obtain ⟨w4, u4, e1, e2, e3, e4⟩ := m_after d2 12 (by decide +kernel) (by decide +kernel) (lo := 0) (hi := nI 99) (by omega)
  have f4 : oz_fm (oz_md s a) u4 := oz_fm_tr a3 (oz_fm_tr d3 e3)
  obtain ⟨u, rfl⟩ : ∃ z, u4 = oz_md z a := ⟨u4, oz_fm_md f4⟩
  have e2' : oz_MX (oz_md u a) T len (Sum.inl q) := e2
  have hat := oz_atl e2'
  refine ⟨u, ?_, e2', f4⟩
  unfold f_Mod_handLine
  rw [pl_5, oz_ck (by omega) (by omega), oz_md_r, if_pos (by rw [hn]), a1, Option.bind_some, show (-1 : Int32) = oz_N from rfl]
  simp only [lf_lt, pl_0, pl_1, pl_9, pl_99]
  rw [d1, Option.bind_some, e1, Option.bind_some, if_neg hat]
theorem m_orderFull {p q : Nat} (X : oz_MX (oz_md s a) T len (Sum.inr p)) (hn : a 6 = 6) (hq : q ≤ 400) : ∃ u, f_Mod_orderLine (nI q) (oz_md s a) = some (oz_md u a) ∧ oz_MX (oz_md u a) T len (Sum.inl q) ∧ oz_fm (oz_md s a) (oz_md u a) := by
  obtain ⟨u1, a1, a2, a3⟩ := m_wrongQ X hq
  obtain ⟨z1, rfl⟩ : ∃ z, u1 = oz_md z a := ⟨u1, oz_fm_md a3⟩
  obtain ⟨w3, u3, d1, d2, d3, d4⟩ := m_figures a2 (lo := 0) (hi := nI (a 4) - nI 1) (by omega)
  obtain ⟨w4, u4, e1, e2, e3, e4⟩ := m_figures d2 (lo := 1) (hi := nI 9) (by omega)
  have f4 : oz_fm (oz_md s a) u4 := oz_fm_tr a3 (oz_fm_tr d3 e3)
  obtain ⟨u, rfl⟩ : ∃ z, u4 = oz_md z a := ⟨u4, oz_fm_md f4⟩
  have e2' : oz_MX (oz_md u a) T len (Sum.inl q) := e2
  have hat := oz_atl e2'
  refine ⟨u, ?_, e2', f4⟩
  unfold f_Mod_orderLine
  rw [pl_6, oz_ck (by omega) (by omega), oz_md_r, if_pos (by rw [hn]), a1, Option.bind_some, pl_4, oz_ck (by omega) (by omega), oz_md_r, show (-1 : Int32) = oz_N from rfl]
  simp only [lf_lt, pl_0, pl_1, pl_9]
  rw [d1, Option.bind_some, e1, Option.bind_some, if_neg hat]
theorem m_basketFull {p q : Nat} (X : oz_MX (oz_md s a) T len (Sum.inr p)) (hn : a 4 = 5) (hq : q ≤ 400) : ∃ u, f_Mod_basketLine (nI q) (oz_md s a) = some (oz_md u a) ∧ oz_MX (oz_md u a) T len (Sum.inl q) ∧ oz_fm (oz_md s a) (oz_md u a) := by
  obtain ⟨u1, a1, a2, a3⟩ := m_wrongQ X hq
  obtain ⟨z1, rfl⟩ : ∃ z, u1 = oz_md z a := ⟨u1, oz_fm_md a3⟩
  obtain ⟨w3, u3, d1, d2, d3, d4⟩ := m_after a2 6 (by decide +kernel) (by decide +kernel) (lo := 3) (hi := nI 24) (by omega)
  obtain ⟨w4, u4, e1, e2, e3, e4⟩ := m_after d2 7 (by decide +kernel) (by decide +kernel) (lo := 1) (hi := nI 20) (by omega)
  obtain ⟨u5, g1, g2, g3⟩ := m_expects e2 8 (by decide +kernel) (by decide +kernel)
  have g2' : oz_MX u5 T len (Sum.inl q) := g2
  obtain ⟨w6, u6, i1, i2, i3, i4⟩ := m_after g2' 9 (by decide +kernel) (by decide +kernel) (lo := 1) (hi := nI 6) (by omega)
  obtain ⟨w7, u7, j1, j2, j3, j4⟩ := m_after i2 10 (by decide +kernel) (by decide +kernel) (lo := 0) (hi := nI 99) (by omega)
  have f4 : oz_fm (oz_md s a) u7 := oz_fm_tr a3 (oz_fm_tr d3 (oz_fm_tr e3 (oz_fm_tr g3 (oz_fm_tr i3 j3))))
  obtain ⟨u, rfl⟩ : ∃ z, u7 = oz_md z a := ⟨u7, oz_fm_md f4⟩
  have j2' : oz_MX (oz_md u a) T len (Sum.inl q) := j2
  have hat := oz_atl j2'
  have ei : oz_isW T len 8 (oz_nmS T len 1 (nI 20) (oz_ndW T len 7 (oz_nmS T len 3 (nI 24) (oz_ndW T len 6 (Sum.inl q))))) = false := rfl
  rw [ei] at g1
  have lp : ∀ c1 c3 c4 v, f_Mod_basketLine_60 c1 c3 c4 5000 v (lf_i false) u5 = some (v, u5) := fun c1 c3 c4 v => by
    rw [f_Mod_basketLine_60, if_pos (show lf_i false = 0 by decide +kernel)]
  refine ⟨u, ?_, j2', f4⟩
  unfold f_Mod_basketLine
  rw [pl_4, oz_ck (by omega) (by omega), oz_md_r, pl_5, if_pos (by rw [hn]), a1, Option.bind_some, oz_ck (by omega) (by omega), show (-1 : Int32) = oz_N from rfl]
  simp only [lf_lt, pl_0, pl_1, pl_2, pl_3, pl_6, pl_20, pl_24, pl_99]
  rw [d1, Option.bind_some, e1, Option.bind_some, g1, Option.bind_some, lp, Option.bind_some, i1, Option.bind_some, j1, Option.bind_some, if_neg hat]
def oz_LM (T : Nat → Nat) (len : Nat) (s : lf_S) (a : Nat → Nat) (f : Option lf_S) (x : (Nat ⊕ Nat) × (Nat → Nat)) : Prop := ∃ u e, f = some (oz_md u e) ∧ oz_MX (oz_md u e) T len x.1 ∧ oz_fm (oz_md s a) (oz_md u a) ∧ (∀ j, 366 ≤ j → e j = a j) ∧ (∀ p', x.1 = Sum.inr p' → e = x.2)
theorem oz_LM_of {x : (Nat ⊕ Nat) × (Nat → Nat)} {f : Option lf_S} (hi : ∀ j, 366 ≤ j → x.2 j = a j) (h9 : s.1 389 9 = oz_N) (h : ∃ u, f = some (oz_md u (match x.1 with
    | Sum.inl _ => a
    | Sum.inr _ => x.2)) ∧ oz_MX (oz_md u a) T len x.1 ∧ oz_fm (oz_md s a) (oz_md u a)) : oz_LM T len s a f x := by
  obtain ⟨u, h1, h2, h3⟩ := h
  have n9 := oz_fm_9 h3 h9
  cases hx : x.1 with
  | inl q =>
    rw [hx] at h1
    rw [hx] at h2
    exact ⟨u, a, h1, by rw [hx]; exact h2, h3, fun _ _ => rfl, fun p' hp' => by rw [hx] at hp'; exact nomatch hp'⟩
  | inr p =>
    rw [hx] at h1
    rw [hx] at h2
    exact ⟨u, x.2, h1, by rw [hx]; exact oz_MX_row h2 n9, h3, hi, fun p' _ => rfl⟩
theorem oz_LM_f {q : Nat} {f : Option lf_S} {e : Nat → Nat} (h : ∃ u, f = some (oz_md u a) ∧ oz_MX (oz_md u a) T len (Sum.inl q) ∧ oz_fm (oz_md s a) (oz_md u a)) : oz_LM T len s a f (Sum.inl q, e) := by
  obtain ⟨u, h1, h2, h3⟩ := h
  exact ⟨u, a, h1, h2, h3, fun _ _ => rfl, fun p' hp' => nomatch hp'⟩
theorem oz_LM_tr {t : lf_S} {x : (Nat ⊕ Nat) × (Nat → Nat)} {f : Option lf_S} (h : oz_fm (oz_md s a) (oz_md t a)) (k : oz_LM T len t a f x) : oz_LM T len s a f x := by
  obtain ⟨u, e, h1, h2, h3, h4, h5⟩ := k
  exact ⟨u, e, h1, h2, oz_fm_tr h h3, h4, h5⟩
theorem oz_LM_b {x : (Nat ⊕ Nat) × (Nat → Nat)} {f : Option lf_S} (k : oz_LM T len s a f x) : oz_LM T len s a (f.bind (fun p => some p)) x := by
  obtain ⟨u, e, h1, h2⟩ := k
  exact ⟨u, e, by rw [h1]; rfl, h2⟩
theorem m_holtLine {p : Nat} (V : oz_V a) (X : oz_MX (oz_md s a) T len (Sum.inr p)) (h9 : s.1 389 9 = oz_N) : oz_LM T len s a (f_Mod_holtLine (oz_md s a)) (oz_hol T len a p) := by
  have hv := oz_V6 V
  have hT := X.2.2.1
  have l400 := X.2.1
  have hp := oz_MX_p X
  obtain ⟨v, k1, k2, k3, k4⟩ := m_here X
  have hy := (k4 p rfl).1
  obtain ⟨z, rfl⟩ : ∃ z, v = oz_md z a := ⟨v, oz_fm_md k3⟩
  have n9 := oz_fm_9 k3 h9
  have ex : ∀ t u, oz_txl t = true → oz_txl u = true → mj_tx t ≠ mj_tx u → oz_wd T len t p = true → oz_wd T len u p = false := fun t u ht hu hne h => by
    cases hz : oz_wd T len u p with
    | false => rfl
    | true => exact absurd (oz_wd_ex hT ht hu hp h hz) hne
  have cg : ∀ t c, mj_tx t = mj_tx c → oz_wd T len c p = false → oz_wd T len t p = false := fun t c h k => by rw [oz_wd_cg h]; exact k
  unfold f_Mod_holtLine
  rw [k1, Option.bind_some, hy]
  simp only [lf_lt]
  refine oz_LM_tr k3 ?_
  unfold oz_hol oz_tls
  cases w32 : oz_wd T len 32 p with
  | true =>
    have x33 := ex 32 33 (by decide +kernel) (by decide +kernel) (by decide +kernel) w32
    have x34 := ex 32 34 (by decide +kernel) (by decide +kernel) (by decide +kernel) w32
    have x35 := ex 32 35 (by decide +kernel) (by decide +kernel) (by decide +kernel) w32
    have x36 := ex 32 36 (by decide +kernel) (by decide +kernel) (by decide +kernel) w32
    have x37 := ex 32 37 (by decide +kernel) (by decide +kernel) (by decide +kernel) w32
    have x38 := ex 32 38 (by decide +kernel) (by decide +kernel) (by decide +kernel) w32
    have x39 := ex 32 39 (by decide +kernel) (by decide +kernel) (by decide +kernel) w32
    have x40 := ex 32 40 (by decide +kernel) (by decide +kernel) (by decide +kernel) w32
    obtain ⟨u1, d1, d2, d3⟩ := m_hasT k2 (t := 13) (c := 32) (by decide +kernel) (by decide +kernel) (by decide +kernel) w32
    rw [oz_tkt d1]
    refine oz_LM_tr d3 (oz_LM_b ?_)
    by_cases c : a 3 < 6
    · rw [if_pos (show true = true ∧ a 3 < 6 from ⟨rfl, c⟩)]
      exact oz_LM_of (fun j hj => oz_bdu_o (by omega) (by omega)) (oz_fm_9 d3 n9) (m_bedLine d2 (oz_fm_9 d3 n9) c)
    · rw [oz_toW_t w32] at d2
      simp only [c, x33, x34, x35, x36, x37, x38, x39, x40, Bool.false_eq_true, false_and, and_false, if_false]
      exact oz_LM_f (m_bedFull d2 (by omega) (by omega))
  | false =>
  obtain ⟨z1, y1, y2, y3, y4⟩ := m_hasF k2 (t := 13) (by decide +kernel) (by decide +kernel) (cg 13 32 (by decide +kernel) w32)
  rw [oz_tkf y1]
  refine oz_LM_tr y3 ?_
  have n9a := oz_fm_9 y3 n9
  cases w33 : oz_wd T len 33 p with
  | true =>
    have x34 := ex 33 34 (by decide +kernel) (by decide +kernel) (by decide +kernel) w33
    have x35 := ex 33 35 (by decide +kernel) (by decide +kernel) (by decide +kernel) w33
    have x36 := ex 33 36 (by decide +kernel) (by decide +kernel) (by decide +kernel) w33
    have x37 := ex 33 37 (by decide +kernel) (by decide +kernel) (by decide +kernel) w33
    have x38 := ex 33 38 (by decide +kernel) (by decide +kernel) (by decide +kernel) w33
    have x39 := ex 33 39 (by decide +kernel) (by decide +kernel) (by decide +kernel) w33
    have x40 := ex 33 40 (by decide +kernel) (by decide +kernel) (by decide +kernel) w33
    obtain ⟨u1, d1, d2, d3⟩ := m_hasT y2 (t := 14) (c := 33) (by decide +kernel) (by decide +kernel) (by decide +kernel) w33
    rw [oz_tkt d1]
    refine oz_LM_tr d3 (oz_LM_b ?_)
    by_cases c : a 4 < 5
    · rw [if_neg (fun z => Bool.noConfusion z.1), if_pos (show true = true ∧ a 4 < 5 from ⟨rfl, c⟩)]
      obtain ⟨u2, e, g1, g2, g3, g4, g5⟩ := m_basketLine d2 (oz_fm_9 d3 n9a) c
      exact ⟨u2, e, g1, g2, g3, fun j hj => g4 j (by omega), g5⟩
    · rw [oz_toW_t w33] at d2
      simp only [c, x34, x35, x36, x37, x38, x39, x40, Bool.false_eq_true, false_and, and_false, if_false]
      exact oz_LM_f (m_basketFull d2 (by omega) (by omega))
  | false =>
  obtain ⟨z2, i1, i2, i3, i4⟩ := m_hasF y2 (t := 14) (by decide +kernel) (by decide +kernel) (cg 14 33 (by decide +kernel) w33)
  rw [oz_tkf i1]
  refine oz_LM_tr i3 ?_
  have n9b := oz_fm_9 i3 n9a
  cases w36 : oz_wd T len 36 p with
  | true =>
    have x34 := ex 36 34 (by decide +kernel) (by decide +kernel) (by decide +kernel) w36
    have x35 := ex 36 35 (by decide +kernel) (by decide +kernel) (by decide +kernel) w36
    obtain ⟨u1, d1, d2, d3⟩ := m_hasT i2 (t := 15) (c := 36) (by decide +kernel) (by decide +kernel) (by decide +kernel) w36
    rw [oz_tkt d1]
    refine oz_LM_tr d3 (oz_LM_b ?_)
    simp only [x34, x35, Bool.false_eq_true, false_and, if_false, if_true]
    have b1 := oz_nmV_le (T := T) (len := len) (lo := 1) (h := 6) (by omega) (by omega) (oz_MX_l d2)
    exact oz_LM_of (fun j hj => oz_up_n (by show j ≠ 37 + oz_nmV T len 1 (nI 6) (oz_toW T len 36 (Sum.inr p)) - 1; omega)) (oz_fm_9 d3 n9b) (m_rodsLine d2 (oz_fm_9 d3 n9b))
  | false =>
  obtain ⟨z3, j1, j2, j3, j4⟩ := m_hasF i2 (t := 15) (by decide +kernel) (by decide +kernel) (cg 15 36 (by decide +kernel) w36)
  rw [oz_tkf j1]
  refine oz_LM_tr j3 ?_
  have n9c := oz_fm_9 j3 n9b
  cases w34 : oz_wd T len 34 p with
  | true =>
    have x35 := ex 34 35 (by decide +kernel) (by decide +kernel) (by decide +kernel) w34
    have x37 := ex 34 37 (by decide +kernel) (by decide +kernel) (by decide +kernel) w34
    have x38 := ex 34 38 (by decide +kernel) (by decide +kernel) (by decide +kernel) w34
    have x39 := ex 34 39 (by decide +kernel) (by decide +kernel) (by decide +kernel) w34
    have x40 := ex 34 40 (by decide +kernel) (by decide +kernel) (by decide +kernel) w34
    obtain ⟨u1, d1, d2, d3⟩ := m_hasT j2 (t := 16) (c := 34) (by decide +kernel) (by decide +kernel) (by decide +kernel) w34
    rw [oz_tkt d1]
    refine oz_LM_tr d3 (oz_LM_b ?_)
    by_cases c : a 5 < 5
    · simp only [c, Bool.false_eq_true, false_and, and_true, if_false, if_true]
      exact oz_LM_of (fun j hj => oz_hdu_o (by omega) (by omega)) (oz_fm_9 d3 n9c) (m_handLine d2 (oz_fm_9 d3 n9c) c)
    · rw [oz_toW_t w34] at d2
      simp only [c, x35, x37, x38, x39, x40, Bool.false_eq_true, false_and, and_false, if_false]
      exact oz_LM_f (m_handFull d2 (by omega) (by omega))
  | false =>
  obtain ⟨z4, l1, l2, l3, l4⟩ := m_hasF j2 (t := 16) (by decide +kernel) (by decide +kernel) (cg 16 34 (by decide +kernel) w34)
  rw [oz_tkf l1]
  refine oz_LM_tr l3 ?_
  have n9d := oz_fm_9 l3 n9c
  cases w35 : oz_wd T len 35 p with
  | true =>
    have x37 := ex 35 37 (by decide +kernel) (by decide +kernel) (by decide +kernel) w35
    have x38 := ex 35 38 (by decide +kernel) (by decide +kernel) (by decide +kernel) w35
    have x39 := ex 35 39 (by decide +kernel) (by decide +kernel) (by decide +kernel) w35
    have x40 := ex 35 40 (by decide +kernel) (by decide +kernel) (by decide +kernel) w35
    obtain ⟨u1, d1, d2, d3⟩ := m_hasT l2 (t := 17) (c := 35) (by decide +kernel) (by decide +kernel) (by decide +kernel) w35
    rw [oz_tkt d1]
    refine oz_LM_tr d3 (oz_LM_b ?_)
    by_cases c : a 6 < 6
    · simp only [c, Bool.false_eq_true, false_and, and_true, if_false, if_true]
      exact oz_LM_of (fun j hj => oz_odu_o (by omega) (by omega)) (oz_fm_9 d3 n9d) (m_orderLine d2 (oz_fm_9 d3 n9d) c)
    · rw [oz_toW_t w35] at d2
      simp only [c, x37, x38, x39, x40, Bool.false_eq_true, false_and, and_false, if_false]
      exact oz_LM_f (m_orderFull d2 (by omega) (by omega))
  | false =>
  simp only [Bool.false_eq_true, false_and, if_false]
  obtain ⟨z5, m1, m2, m3, m4⟩ := m_hasF l2 (t := 17) (by decide +kernel) (by decide +kernel) (cg 17 35 (by decide +kernel) w35)
  rw [oz_tkf m1]
  refine oz_LM_tr m3 ?_
  have n9e := oz_fm_9 m3 n9d
  rw [pl_0, pl_7, pl_8, pl_9, pl_100, pl_999]
  cases w37 : oz_wd T len 37 p with
  | true =>
    obtain ⟨u1, d1, d2, d3⟩ := m_hasT m2 (t := 18) (c := 37) (by decide +kernel) (by decide +kernel) (by decide +kernel) w37
    rw [oz_tkt d1]
    refine oz_LM_tr d3 (oz_LM_b ?_)
    rw [if_pos rfl]
    exact oz_LM_of (fun j hj => oz_up_n (by omega)) (oz_fm_9 d3 n9e) (m_tells (by omega) (by omega) d2 (oz_fm_9 d3 n9e))
  | false =>
  obtain ⟨z6, o1, o2, o3, o4⟩ := m_hasF m2 (t := 18) (by decide +kernel) (by decide +kernel) (cg 18 37 (by decide +kernel) w37)
  rw [oz_tkf o1, if_neg (show ¬ (false = true) from Bool.noConfusion)]
  refine oz_LM_tr o3 ?_
  have n9f := oz_fm_9 o3 n9e
  cases w38 : oz_wd T len 38 p with
  | true =>
    obtain ⟨u1, d1, d2, d3⟩ := m_hasT o2 (t := 19) (c := 38) (by decide +kernel) (by decide +kernel) (by decide +kernel) w38
    rw [oz_tkt d1]
    refine oz_LM_tr d3 (oz_LM_b ?_)
    rw [if_pos rfl]
    exact oz_LM_of (fun j hj => oz_up_n (by omega)) (oz_fm_9 d3 n9f) (m_tells (by omega) (by omega) d2 (oz_fm_9 d3 n9f))
  | false =>
  obtain ⟨z7, q1, q2, q3, q4⟩ := m_hasF o2 (t := 19) (by decide +kernel) (by decide +kernel) (cg 19 38 (by decide +kernel) w38)
  rw [oz_tkf q1, if_neg (show ¬ (false = true) from Bool.noConfusion)]
  refine oz_LM_tr q3 ?_
  have n9g := oz_fm_9 q3 n9f
  cases w39 : oz_wd T len 39 p with
  | true =>
    obtain ⟨u1, d1, d2, d3⟩ := m_hasT q2 (t := 20) (c := 39) (by decide +kernel) (by decide +kernel) (by decide +kernel) w39
    rw [oz_tkt d1]
    refine oz_LM_tr d3 (oz_LM_b ?_)
    rw [if_pos rfl]
    exact oz_LM_of (fun j hj => oz_up_n (by omega)) (oz_fm_9 d3 n9g) (m_tells (by omega) (by omega) d2 (oz_fm_9 d3 n9g))
  | false =>
  obtain ⟨z8, r1, r2, r3, r4⟩ := m_hasF q2 (t := 20) (by decide +kernel) (by decide +kernel) (cg 20 39 (by decide +kernel) w39)
  rw [oz_tkf r1, if_neg (show ¬ (false = true) from Bool.noConfusion)]
  refine oz_LM_tr r3 ?_
  have n9h := oz_fm_9 r3 n9g
  cases w40 : oz_wd T len 40 p with
  | true =>
    obtain ⟨u1, d1, d2, d3⟩ := m_hasT r2 (t := 21) (c := 40) (by decide +kernel) (by decide +kernel) (by decide +kernel) w40
    rw [oz_tkt d1, if_pos rfl]
    refine oz_LM_tr d3 ⟨u1, oz_up a 10 1, ?_, oz_MX_row d2 (oz_fm_9 d3 n9h), oz_fm_rf, fun j hj => oz_up_n (by omega), fun _ _ => rfl⟩
    rw [pl_10, pl_1, oz_ck (by omega) (by omega)]
    try dsimp only
    rw [oz_md_w]
  | false =>
  obtain ⟨z9, g1, g2, g3, g4⟩ := m_hasF r2 (t := 21) (by decide +kernel) (by decide +kernel) (cg 21 40 (by decide +kernel) w40)
  rw [oz_tkf g1, if_neg (show ¬ (false = true) from Bool.noConfusion)]
  refine oz_LM_tr g3 ?_
  obtain ⟨w9, h1, h2, h3⟩ := m_wrongQ g2 (q := p) (by omega)
  obtain ⟨w, rfl⟩ : ∃ z, w9 = oz_md z a := ⟨w9, oz_fm_md h3⟩
  refine oz_LM_f ⟨w, ?_, h2, h3⟩
  show (f_Mod_wrong ((oz_md z9 a).1 389 11) (oz_md z9 a)).bind _ = _
  rw [oz_md_o (by omega), g4, h1]
  rfl
end
