/-! ===== a holt's text, the model's ===== -/
section
variable {s : lf_S} {T : Nat → Nat} {len : Nat} {a : Nat → Nat}
theorem oz_MX_up1 {p : Nat} (X : oz_MX s T len (Sum.inr p)) (h : s.1 389 11 = nI p) (hp : p < len) : oz_MX (lf_w s 389 11 (nI (p + 1))) T len (Sum.inr (oz_sb T len (p + 1))) := by
  obtain ⟨h1, h2, h3, h4, g1, _⟩ := X
  refine ⟨(oz_w_n (by omega)).trans h1, h2, h3, oz_LT_fm h4 (oz_fm_w (Or.inl rfl)), ?_⟩
  show (lf_w s 389 11 (nI (p + 1))).1 389 12 = oz_N ∧ ∃ m, m ≤ len ∧ (lf_w s 389 11 (nI (p + 1))).1 389 11 = nI m ∧ oz_sb T len m = oz_sb T len (p + 1)
  exact ⟨(oz_w_n (by omega)).trans g1, p + 1, by omega, oz_w_s, rfl⟩
theorem oz_MX_p11 {p : Nat} (X : oz_MX s T len (Sum.inr p)) : p = oz_sb T len p := by
  obtain ⟨_, m, hm, _, e⟩ := X.2.2.2.2
  rw [← e, oz_sb_sb]
theorem oz_end {p : Nat} (X : oz_MX s T len (Sum.inr p)) (h : s.1 389 11 = nI p) : (s.1 389 11 = s.1 389 10) = (len ≤ p) := by
  have hp := oz_MX_p X
  have hl := X.2.1
  rw [h, X.1, oz_eq (by omega) (by omega)]
  exact propext ⟨fun e => by omega, fun e => by omega⟩
theorem m_holtLoop : ∀ k p (a : Nat → Nat) (s : lf_S) n fuel, n + k = 14 → k + 2 < fuel → oz_V a → oz_MX (oz_md s a) T len (Sum.inr p) → s.1 389 9 = oz_N → ∃ u e m, f_Mod_read_23 (0 : Int32) fuel (nI 1) (nI n) (oz_md s a) = some (m, oz_md u e) ∧ oz_MX (oz_md u e) T len (oz_hrd T len k p a).1 ∧ oz_fm (oz_md s a) (oz_md u a) ∧ (∀ j, 366 ≤ j → e j = a j) ∧ (∀ p', (oz_hrd T len k p a).1 = Sum.inr p' → e = (oz_hrd T len k p a).2) := by
  intro k
  induction k with
  | zero =>
    intro p a s n fuel hn hf V X h9
    obtain ⟨fuel, rfl⟩ : ∃ m, fuel = m + 2 := ⟨fuel - 2, by omega⟩
    obtain rfl : n = 14 := by omega
    have l400 := X.2.1
    have hp := oz_MX_p X
    obtain ⟨v1, k1, k2, k3, k4⟩ := m_skip X
    have hy := (k4 p rfl).1
    obtain ⟨v2, d1, d2, d3⟩ := m_wrongQ k2 (q := p) (by omega)
    obtain ⟨v3, e1, e2, e3, e4⟩ := m_skip d2
    have f3 := oz_fm_tr k3 (oz_fm_tr d3 e3)
    obtain ⟨u, rfl⟩ : ∃ z, v3 = oz_md z a := ⟨v3, oz_fm_md f3⟩
    refine ⟨u, a, nI 15, ?_, e2, f3, fun _ _ => rfl, fun p' hp' => nomatch hp'⟩
    rw [f_Mod_read_23, if_neg (show ¬ (nI 1 = (0 : Int32)) by decide +kernel), pl_1, oz_neg1, if_pos (oz_at X), k1, Option.bind_some, if_pos rfl, pl_14, if_pos rfl, hy, d1, Option.bind_some]
    simp only [lf_lt, nI_add]
    rw [e1, Option.bind_some, if_neg (oz_atl e2)]
    rw [f_Mod_read_23, if_pos rfl]
  | succ k ih =>
    intro p a s n fuel hn hf V X h9
    obtain ⟨fuel, rfl⟩ : ∃ m, fuel = m + 1 := ⟨fuel - 1, by omega⟩
    have hp := oz_MX_p X
    obtain ⟨v1, k1, k2, k3, k4⟩ := m_skip X
    obtain ⟨z1, rfl⟩ : ∃ z, v1 = oz_md z a := ⟨v1, oz_fm_md k3⟩
    have n9 := oz_fm_9 k3 h9
    obtain ⟨u1, b, d1, d2, d3, d4, d5⟩ := m_holtLine V k2 n9
    have f1 : oz_fm (oz_md s a) (oz_md u1 a) := oz_fm_tr k3 d3
    obtain ⟨v2, e1, e2, e3, e4⟩ := m_skip d2
    obtain ⟨z2, rfl⟩ : ∃ z, v2 = oz_md z b := ⟨v2, oz_fm_md e3⟩
    have f2 : oz_fm (oz_md s a) (oz_md z2 a) := oz_fm_tr f1 (oz_fm_row e3)
    have n9b := oz_fm_9 f2 h9
    rw [f_Mod_read_23, if_neg (show ¬ (nI 1 = (0 : Int32)) by decide +kernel), pl_1, oz_neg1, if_pos (oz_at X), k1, Option.bind_some, if_pos rfl, pl_14, if_neg (by rw [oz_eq (by omega) (by omega)]; omega), if_pos rfl, d1, Option.bind_some]
    simp only [lf_lt, nI_add]
    rw [e1, Option.bind_some]
    cases hx : (oz_hol T len a p).1 with
    | inl q =>
      rw [hx] at e2
      rw [oz_hrd_l hx, if_neg (oz_atl e2)]
      obtain ⟨fuel, rfl⟩ : ∃ m, fuel = m + 1 := ⟨fuel - 1, by omega⟩
      rw [f_Mod_read_23, if_pos rfl]
      exact ⟨z2, b, _, rfl, e2, f2, d4, fun p' hp' => nomatch hp'⟩
    | inr p' =>
      have eb := d5 p' hx
      subst eb
      have V1 := oz_hol_V V hp hx
      have h11 := (e4 p' hx).1
      rw [hx] at e2
      have hp2 := oz_MX_p e2
      rw [oz_hrd_r hx, if_pos (oz_at e2)]
      by_cases c : len ≤ p'
      · rw [if_pos c, if_pos ((oz_end e2 h11).symm ▸ c)]
        obtain ⟨fuel, rfl⟩ : ∃ m, fuel = m + 1 := ⟨fuel - 1, by omega⟩
        rw [f_Mod_read_23, if_pos (show (0 : Int32) = 0 from rfl)]
        exact ⟨z2, _, _, rfl, e2, f2, d4, fun p' _ => rfl⟩
      · rw [if_neg c, if_neg (by rw [oz_end e2 h11]; exact c)]
        obtain ⟨v3, g1, g2, g3, g4⟩ := m_isSign e2 (c := 59) (by omega)
        obtain ⟨z3, rfl⟩ : ∃ z, v3 = oz_md z (oz_hol T len a p).2 := ⟨v3, oz_fm_md g3⟩
        have f3 : oz_fm (oz_md s a) (oz_md z3 a) := oz_fm_tr f2 (oz_fm_row g3)
        have ei : oz_isG T len 59 (Sum.inr p') = decide (p' < len ∧ T p' = 59) := rfl
        rw [ei] at g1
        rw [pl_59]
        by_cases c2 : T p' = 59
        · rw [decide_eq_true (show p' < len ∧ T p' = 59 from ⟨by omega, c2⟩)] at g1
          rw [if_pos c2, oz_tkt g1]
          have X3 := oz_MX_up1 g2 g4 (by omega)
          have ew : lf_w (oz_md z3 (oz_hol T len a p).2) 389 11 (nI (p' + 1)) = oz_md (lf_w z3 389 11 (nI (p' + 1))) (oz_hol T len a p).2 := oz_md_wo (by omega)
          rw [ew] at X3
          have f4 : oz_fm (oz_md z3 a) (oz_md (lf_w z3 389 11 (nI (p' + 1))) a) := by
            have := oz_fm_w (s := oz_md z3 a) (j := 11) (v := nI (p' + 1)) (Or.inl rfl)
            rwa [oz_md_wo (by omega)] at this
          have f5 := oz_fm_tr f3 f4
          obtain ⟨u, e, m, j1, j2, j3, j4, j5⟩ := ih (oz_sb T len (p' + 1)) (oz_hol T len a p).2 (lf_w z3 389 11 (nI (p' + 1))) (n + 1) fuel (by omega) (by omega) V1 X3 (oz_fm_9 f5 h9)
          refine ⟨u, e, m, ?_, j2, oz_fm_tr f5 (oz_fm_row j3), fun j hj => (j4 j hj).trans (d4 j hj), j5⟩
          try dsimp only
          rw [g4, nI_add, ew]
          exact j1
        · rw [decide_eq_false (show ¬ (p' < len ∧ T p' = 59) from fun z => c2 z.2)] at g1
          rw [if_neg c2, oz_tkf g1]
          have l400 := e2.2.1
          obtain ⟨v4, i1, i2, i3⟩ := m_wrongQ g2 (q := p') (by omega)
          obtain ⟨z4, rfl⟩ : ∃ z, v4 = oz_md z (oz_hol T len a p).2 := ⟨v4, oz_fm_md i3⟩
          refine ⟨z4, (oz_hol T len a p).2, nI (n + 1), ?_, i2, oz_fm_tr f3 (oz_fm_row i3), d4, fun p' hp' => nomatch hp'⟩
          try dsimp only
          rw [g4, i1, Option.bind_some]
          obtain ⟨fuel, rfl⟩ : ∃ m, fuel = m + 1 := ⟨fuel - 1, by omega⟩
          rw [f_Mod_read_23, if_neg (show ¬ (nI 1 = (0 : Int32)) by decide +kernel), pl_1, oz_neg1, if_neg (oz_atl i2)]
theorem m_begins (h8 : s.1 389 8 = nI len) : ∃ t, f_Mod_begins (oz_md s a) = some (oz_md t a) ∧ t.1 389 12 = oz_N ∧ t.1 389 9 = oz_N ∧ t.1 389 10 = nI len ∧ t.1 389 8 = nI 0 ∧ t.1 389 11 = nI 0 ∧ t.1 389 13 = nI 0 ∧ oz_fr (fun p => p = 389) s t ∧ (∀ j, (j < 8 ∨ 13 < j) → t.1 389 j = s.1 389 j) := by
  refine ⟨lf_w (lf_w (lf_w (lf_w (lf_w (lf_w s 389 12 oz_N) 389 9 oz_N) 389 10 (nI len)) 389 8 (nI 0)) 389 11 (nI 0)) 389 13 (nI 0), ?_, ?_, ?_, ?_, ?_, ?_, oz_w_s, ?_, fun j hj => ?_⟩
  · unfold f_Mod_begins
    simp only [lf_lt]
    rw [pl_1, oz_neg1, pl_0]
    have e : (lf_w (lf_w (oz_md s a) 389 12 oz_N) 389 9 oz_N).1 389 8 = nI len := by rw [oz_w_n (by omega), oz_w_n (by omega), oz_md_o (by omega)]; exact h8
    rw [e]
    have m : ∀ (x : lf_S) k v, lf_w (oz_md x a) 389 k v = oz_md (lf_w x 389 k v) a := fun x k v => oz_md_wo (by omega)
    rw [m, m, m, m, m, m]
  · rw [oz_w_n (by omega), oz_w_n (by omega), oz_w_n (by omega), oz_w_n (by omega), oz_w_n (by omega), oz_w_s]
  · rw [oz_w_n (by omega), oz_w_n (by omega), oz_w_n (by omega), oz_w_n (by omega), oz_w_s]
  · rw [oz_w_n (by omega), oz_w_n (by omega), oz_w_n (by omega), oz_w_s]
  · rw [oz_w_n (by omega), oz_w_n (by omega), oz_w_s]
  · rw [oz_w_n (by omega), oz_w_s]
  · exact oz_fr_tr (oz_fr_w rfl) (oz_fr_tr (oz_fr_w rfl) (oz_fr_tr (oz_fr_w rfl) (oz_fr_tr (oz_fr_w rfl) (oz_fr_tr (oz_fr_w rfl) (oz_fr_w rfl)))))
  · rw [oz_w_n (by omega), oz_w_n (by omega), oz_w_n (by omega), oz_w_n (by omega), oz_w_n (by omega), oz_w_n (by omega)]
theorem m_holt (V : oz_V a) (h8 : s.1 389 8 = nI len) (h2 : len ≤ 400) (h3 : ∀ i, i < len → T i ≤ 255 ∧ s.1 394 i = nI (T i)) : ∃ t, f_Mod_holt (oz_md s a) = some ((oz_hoR T len a).elim (fun _ => nI 0) id, oz_md t (oz_hoA T len a)) ∧ t.1 389 0 = (oz_hoR T len a).elim (fun n => nI (n + 1)) (fun _ => nI 0) ∧ t.1 389 8 = nI 0 ∧ t.1 389 12 = oz_ft (oz_hrA T len a).1 ∧ (t.1 389 6 = if (oz_hoR T len a).isRight = true then nI 0 else s.1 389 6) ∧ t.1 389 3 = s.1 389 3 ∧ oz_fr (fun p => p = 389 ∨ p = 392) s t := by
  obtain ⟨t1, k1, k2, k3⟩ := m_aside (s := s) (a := a)
  obtain ⟨t2, l1, l2, l3, l4, l5, l6, l7, l8, l9⟩ := m_begins (s := t1) (a := a) (len := len) (by rw [k2.1 389 (by omega)]; exact h8)
  have X2 : oz_MX (oz_md t2 a) T len (Sum.inr (oz_sb T len 0)) := by
    refine ⟨by rw [oz_md_o (by omega)]; exact l4, h2, fun i hi => (h3 i hi).1, Or.inl ⟨by rw [oz_md_o (by omega)]; exact l3, fun i hi => by rw [oz_md_o (by omega), l8.1 394 (by omega), k2.1 394 (by omega)]; exact (h3 i hi).2⟩, ?_⟩
    show (oz_md t2 a).1 389 12 = oz_N ∧ ∃ m, m ≤ len ∧ (oz_md t2 a).1 389 11 = nI m ∧ oz_sb T len m = oz_sb T len 0
    exact ⟨by rw [oz_md_o (by omega)]; exact l2, 0, by omega, by rw [oz_md_o (by omega)]; exact l6, rfl⟩
  -- the reading
  have rd : ∃ u e m, f_Mod_read (0 : Int32) (oz_md t2 a) = some (m, oz_md u e) ∧ oz_MX (oz_md u e) T len (oz_hrA T len a).1 ∧ oz_fm (oz_md t2 a) (oz_md u a) ∧ (∀ j, 366 ≤ j → e j = a j) ∧ (∀ p', (oz_hrA T len a).1 = Sum.inr p' → e = (oz_hrA T len a).2) := by
    obtain ⟨v, g1, g2, g3, g4⟩ := m_skip X2
    obtain ⟨z, rfl⟩ : ∃ z, v = oz_md z a := ⟨v, oz_fm_md g3⟩
    obtain ⟨h11, hp, _⟩ := g4 _ rfl
    have n9 := oz_fm_9 g3 l3
    unfold f_Mod_read oz_hrA
    rw [g1, Option.bind_some, g2.1, h11]
    simp only [lf_lt, pl_1]
    by_cases c : len ≤ oz_sb T len 0
    · rw [if_pos c, oz_ile_t c (by omega), f_Mod_read_23, if_pos rfl]
      exact ⟨z, a, _, rfl, g2, g3, fun _ _ => rfl, fun _ _ => rfl⟩
    · rw [if_neg c, oz_ile_f (by omega) (by omega)]
      obtain ⟨u, e, m, j1, j2, j3, j4, j5⟩ := m_holtLoop (T := T) (len := len) 14 _ a z 0 5000 rfl (by omega) V g2 n9
      rw [pl_0]
      have j1' : f_Mod_read_23 (nI 0) 5000 (nI 1) (nI 0) (oz_md z a) = some (m, oz_md u e) := j1
      rw [j1', Option.bind_some]
      exact ⟨u, e, m, rfl, j2, oz_fm_tr g3 j3, j4, j5⟩
  obtain ⟨u, e, m, r1, r2, r3, r4, r5⟩ := rd
  have hu : ∀ q, q ≠ 389 → q ≠ 390 → u.1 q = t2.1 q := fun q h1 h2 => by
    have := r3.1.1 q h1
    rwa [oz_md_o h2, oz_md_o h2] at this
  have hu2 : u.2 = t2.2 := r3.1.2
  have huj : ∀ j, j ≠ 11 → j ≠ 12 → u.1 389 j = t2.1 389 j := fun j h1 h2 => by
    have := r3.2 j h1 h2
    rwa [oz_md_o (by omega), oz_md_o (by omega)] at this
  have r2' := oz_MX_ft r2
  rw [oz_md_o (by omega)] at r2'
  -- the cells of the row are hidden by oz_md: take u with the row of s
  obtain ⟨w, hw⟩ : ∃ w : lf_S, w = (fun q => if q = 390 then s.1 390 else u.1 q, u.2) := ⟨_, rfl⟩
  have wo : ∀ q, q ≠ 390 → w.1 q = u.1 q := fun q hq => by rw [hw]; exact if_neg hq
  have wr : w.1 390 = s.1 390 := by rw [hw]; rfl
  have we : ∀ b, oz_md u b = oz_md w b := fun b => by
    refine oz_S_ext (fun q => ?_) (by rw [hw]; rfl)
    by_cases c : q = 390
    · subst c; rfl
    · rw [oz_md_o c, oz_md_o c, wo q c]
  have w2 : w.2 = s.2 := by
    rw [hw]
    exact hu2.trans (l8.2.trans k2.2)
  have wfr : oz_fr (fun p => p = 389 ∨ p = 392) s w := by
    refine ⟨fun q hq => ?_, w2⟩
    by_cases c : q = 390
    · rw [c]; exact wr
    · rw [wo q c, hu q (by omega) c, l8.1 q (by omega), k2.1 q (by omega)]
  have w389 : w.1 389 = u.1 389 := wo 389 (by omega)
  have w392 : ∀ j, j < 366 → w.1 392 j = nI (a j) := fun j hj => by rw [wo 392 (by omega), hu 392 (by omega) (by omega), l8.1 392 (by omega)]; exact k3 j hj
  have w8 : w.1 389 8 = nI 0 := by rw [w389, huj 8 (by omega) (by omega)]; exact l5
  have w6 : w.1 389 6 = s.1 389 6 := by rw [w389, huj 6 (by omega) (by omega), l9 6 (by omega), k2.1 389 (by omega)]
  have w3 : w.1 389 3 = s.1 389 3 := by rw [w389, huj 3 (by omega) (by omega), l9 3 (by omega), k2.1 389 (by omega)]
  have w12 : w.1 389 12 = oz_ft (oz_hrA T len a).1 := by rw [w389]; exact r2'
  unfold f_Mod_holt
  rw [k1, Option.bind_some, l1, Option.bind_some, r1, Option.bind_some, we e]
  simp only [lf_lt]
  rw [pl_12, show (-1 : Int32) = oz_N from rfl, oz_md_o (show (389 : Nat) ≠ 390 by omega), w12]
  unfold oz_hoR oz_hoA
  have bk : ∀ x : Int32, f_Mod_comesBack (oz_md (lf_w w 389 0 x) e) = some (oz_md (lf_w w 389 0 x) a) := fun x => m_back (fun j hj => by rw [oz_w_o (by omega)]; exact w392 j hj) r4
  have mw : ∀ x : Int32, lf_w (oz_md w e) 389 0 x = oz_md (lf_w w 389 0 x) e := fun x => oz_md_wo (by omega)
  have gt : ∀ n, 0 < n → n < 100 → ¬ (oz_md (lf_w w 389 0 (nI n)) e).1 389 0 ≤ nI 0 := fun n h1 h2 => by
    rw [oz_md_o (by omega), oz_w_s]
    exact of_eq_false (oz_le_f (a := n) (b := 0) h1 (by omega))
  cases hx : (oz_hrA T len a).1 with
  | inl q =>
    rw [hx] at w12 r2
    have nq : ¬ (oz_ft (Sum.inl q) = oz_N) := by
      have := oz_atl r2
      have e2 := oz_MX_ft r2
      rw [e2] at this
      exact this
    rw [if_neg nq, pl_0, pl_1, mw, if_neg (gt 1 (by omega) (by omega)), bk, Option.bind_some]
    refine ⟨_, rfl, oz_w_s, by rw [oz_w_n (by omega)]; exact w8, by rw [oz_w_n (by omega)]; exact w12, by rw [oz_w_n (by omega)]; exact w6, by rw [oz_w_n (by omega)]; exact w3, oz_fr_tr wfr (oz_fr_w (by omega))⟩
  | inr p =>
    have ee := r5 p hx
    have e0 : e 0 = a 0 := by rw [ee]; exact oz_hrA_0
    have hv := oz_V6 V
    rw [hx] at w12
    rw [if_pos (show oz_ft (Sum.inr p) = oz_N from rfl), pl_0, pl_1, oz_ck (by omega) (by omega), oz_md_r, e0]
    by_cases c : a 0 < 12
    · rw [if_neg (by rw [oz_eq (by omega) (by omega)]; omega)]
      simp only [if_pos c]
      have le : (oz_md (lf_w w 389 0 (nI 0)) e).1 389 0 ≤ nI 0 := oz_go0
      rw [mw, if_pos le, oz_ck (by omega) (by omega), oz_ck (by omega) (by omega), oz_md_r, e0, nI_add, oz_md_w, oz_md_wo (by omega), oz_ck (by omega) (by omega), oz_md_r, oz_up_s]
      refine ⟨lf_w (lf_w w 389 0 (nI 0)) 389 6 (nI 0), ?_, ?_, ?_, ?_, oz_w_s, ?_, oz_fr_tr wfr (oz_fr_tr (oz_fr_w (by omega)) (oz_fr_w (by omega)))⟩
      · rw [ee]; rfl
      · rw [oz_w_n (by omega)]; exact oz_w_s
      · rw [oz_w_n (by omega), oz_w_n (by omega)]; exact w8
      · rw [oz_w_n (by omega), oz_w_n (by omega)]; exact w12
      · rw [oz_w_n (by omega), oz_w_n (by omega)]; exact w3
    · rw [if_pos (show nI (a 0) = nI 12 by rw [show a 0 = 12 by omega])]
      simp only [if_neg c]
      rw [pl_2, mw, if_neg (gt 2 (by omega) (by omega)), bk, Option.bind_some]
      refine ⟨_, rfl, oz_w_s, by rw [oz_w_n (by omega)]; exact w8, by rw [oz_w_n (by omega)]; exact w12, by rw [oz_w_n (by omega)]; exact w6, by rw [oz_w_n (by omega)]; exact w3, oz_fr_tr wfr (oz_fr_w (by omega))⟩
end
