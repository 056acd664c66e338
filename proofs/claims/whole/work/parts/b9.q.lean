/-! ===== odds, most, open, worth, fills, ahead answered ===== -/
section
variable {s : lf_S} {a : Nat → Nat} {L : List (Nat × Nat × List Nat)} {n o : Nat} {E : Nat → Nat → Nat} {T : Nat → Nat} {len : Nat}
theorem q_odds (I : oz_I s a L n o E T len) (x y : Int32) : oz_An oz_H0 (f_Main_odds x y s) (f_Mod_odds x y) := by
  have V := oz_IV I
  have C := oz_IC I
  have hV := oz_v0 V
  unfold oz_V0 at hV
  rcases oz_isr x 0 5 (by omega) (by omega) with ⟨k, _, h1, rfl, _⟩ | ⟨h1, _⟩
  · have ci : f_Main_needWithin (nI k) (0 : Int32) (5 : Int32) s = some (Sum.inr (), s) := c_needWithin_t (l := 0) (h := 5) (by omega) h1 (by omega)
    have mi : f_Mod_isIn (nI k) (0 : Int32) (5 : Int32) = some true := m_isIn_t (l := 0) (h := 5) (by omega) h1 (by omega)
    rcases oz_isr y 0 5 (by omega) (by omega) with ⟨m, _, m1, rfl, _⟩ | ⟨m1, _⟩
    · have p1 := oz_p100 h1
      have p0 : 0 < 100 ^ k := Nat.pow_pos (by omega)
      refine oz_qr0 I (v := ((lN (oz_odds (a 7) k m) * lN 10000) / lN (100 ^ k)).toInt32) (s1 := s) ?_ oz_kp_rf (fun x Ix => ?_)
      · unfold f_Main_odds
        rw [ci, oz_tb_r, show f_Main_needWithin (nI m) (0 : Int32) (5 : Int32) s = some (Sum.inr (), s) from c_needWithin_t (l := 0) (h := 5) (by omega) m1 (by omega), oz_tb_r]
        simp only [lf_lt]
        rw [pl_l0, pl_l1, pl_l10000, pl_0, c_oddsLoop (oz_C0_7 C.1) (by omega) h1 m1, Option.bind_some]
        try dsimp only
        rw [c_oddsAll h1, Option.bind_some, oz_nzl p0 (by omega)]
      · unfold f_Mod_odds
        rw [oz_bt mi, oz_bt (show f_Mod_isIn (nI m) (0 : Int32) (5 : Int32) = some true from m_isIn_t (l := 0) (h := 5) (by omega) m1 (by omega)), oz_th0]
        simp only [lf_lt]
        rw [pl_l0, pl_l1, pl_l10000, pl_0, m_oddsAll h1, Option.bind_some]
        try dsimp only
        rw [m_oddsLoop V h1 m1, Option.bind_some, oz_nzl p0 (by omega), Int64.mul_comm]
    · refine oz_ql I (e := 0) (k := 1) (s1 := s) ?_ oz_kp_rf rfl (by omega) (by omega) (fun x Ix => ?_)
      · unfold f_Main_odds
        rw [ci, oz_tb_r, show f_Main_needWithin y (0 : Int32) (5 : Int32) s = some (Sum.inl 0, s) from c_needWithin_f m1, oz_tb_l]
      · unfold f_Mod_odds
        rw [oz_bt mi, oz_bf (show f_Mod_isIn y (0 : Int32) (5 : Int32) = some false from m_isIn_o m1), oz_th1]
  · refine oz_ql I (e := 0) (k := 1) (s1 := s) ?_ oz_kp_rf rfl (by omega) (by omega) (fun x' Ix => ?_)
    · unfold f_Main_odds
      rw [show f_Main_needWithin x (0 : Int32) (5 : Int32) s = some (Sum.inl 0, s) from c_needWithin_f h1, oz_tb_l]
    · unfold f_Mod_odds
      rw [oz_bf (show f_Mod_isIn x (0 : Int32) (5 : Int32) = some false from m_isIn_o h1), oz_th1]
theorem q_most (I : oz_I s a L n o E T len) (x : Int32) : oz_An oz_H2 (f_Main_most x s) (f_Mod_most x) := by
  have V := oz_IV I
  have C := oz_IC I
  have hv := oz_V6 V
  rcases oz_isr x 0 2 (by omega) (by omega) with ⟨m, _, m2, rfl, _⟩ | ⟨m1, _⟩
  · have mi : f_Mod_isIn (nI m) (0 : Int32) (2 : Int32) = some true := m_isIn_t (l := 0) (h := 2) (by omega) m2 (by omega)
    match m, m2, mi with
    | 0, _, mi =>
      have v1 : ∀ i, i < a 3 → oz_bed a i 1 ≤ 99 := fun i hi => by
        have := oz_v1 V hi
        unfold oz_V1 at this
        omega
      refine oz_qr0 I (v := oz_en (oz_fg (fun i => oz_bed a i 1) (a 3))) (s1 := s) ?_ oz_kp_rf (fun x Ix => ?_)
      · unfold f_Main_most
        simp only [lf_lt]
        rw [if_pos (show nI 0 = (0 : Int32) from rfl), show s.1 (10 + 1) 0 = nI (a 3) from b_0 C.2.1, c_firstGreatest (val := fun i => oz_bed a i 1) (by omega) (by omega) (fun i hi => ⟨b_2 C.2.1 hi, v1 i hi⟩), Option.bind_some]
      · have lp := m_mostLoop (s := lf_w x 389 0 (nI 0)) (a := a) (w := 0) (n := a 3) (val := fun i => oz_bed a i 1) (by omega) (fun i hi => ⟨by
          unfold f_Mod_valueOf
          rw [if_pos (show nI 0 = (0 : Int32) from rfl), pl_1, m_ofBed (by omega) (by omega), Option.bind_some], v1 i hi⟩)
        unfold f_Mod_most
        rw [oz_bt mi, oz_th0, if_pos (show nI 0 = (0 : Int32) from rfl), pl_3, oz_ck (by omega) (by omega), oz_md_r]
        simp only [lf_lt]
        rw [show (-1 : Int32) = oz_N from rfl, pl_0, lp, Option.bind_some]
    | 1, _, mi =>
      have v1 : ∀ i, i < a 4 → oz_bas a i 3 ≤ 99 := fun i hi => by
        have := oz_v2 V hi
        unfold oz_V2 at this
        omega
      refine oz_qr0 I (v := oz_en (oz_fg (fun i => oz_bas a i 3) (a 4))) (s1 := s) ?_ oz_kp_rf (fun x Ix => ?_)
      · unfold f_Main_most
        simp only [lf_lt]
        rw [if_neg (show ¬ (nI 1 = (0 : Int32)) by decide +kernel), if_pos (show nI 1 = (1 : Int32) from rfl), show s.1 (10 + 6) 0 = nI (a 4) from k_0 C.2.2.1, c_firstGreatest (val := fun i => oz_bas a i 3) (by omega) (by omega) (fun i hi => ⟨k_4 C.2.2.1 hi, v1 i hi⟩), Option.bind_some]
      · have lp := m_mostLoop (s := lf_w x 389 0 (nI 0)) (a := a) (w := 1) (n := a 4) (val := fun i => oz_bas a i 3) (by omega) (fun i hi => ⟨by
          unfold f_Mod_valueOf
          rw [if_neg (show ¬ (nI 1 = (0 : Int32)) by decide +kernel), if_pos (show nI 1 = (1 : Int32) from rfl), pl_3, m_ofBasket (by omega) (by omega), Option.bind_some], v1 i hi⟩)
        unfold f_Mod_most
        rw [oz_bt mi, oz_th0, if_neg (show ¬ (nI 1 = (0 : Int32)) by decide +kernel), if_pos (show nI 1 = (1 : Int32) from rfl), pl_4, oz_ck (by omega) (by omega), oz_md_r]
        simp only [lf_lt]
        rw [show (-1 : Int32) = oz_N from rfl, pl_0, lp, Option.bind_some]
    | 2, _, mi =>
      have v1 : ∀ i, i < a 5 → oz_sk a i ≤ 99 := fun i hi => by
        have := oz_v3 V hi
        unfold oz_V3 at this
        omega
      refine oz_qr0 I (v := oz_en (oz_fg (oz_sk a) (a 5))) (s1 := s) ?_ oz_kp_rf (fun x Ix => ?_)
      · unfold f_Main_most
        simp only [lf_lt]
        rw [if_neg (show ¬ (nI 2 = (0 : Int32)) by decide +kernel), if_neg (show ¬ (nI 2 = (1 : Int32)) by decide +kernel), if_pos (show nI 2 = (2 : Int32) from rfl), show s.1 (10 + 15) 0 = nI (a 5) from h_0 C.2.2.2.1, c_firstGreatest (val := oz_sk a) (by omega) (by omega) (fun i hi => ⟨h_1 C.2.2.2.1 hi, v1 i hi⟩), Option.bind_some]
      · have lp := m_mostLoop (s := lf_w x 389 0 (nI 0)) (a := a) (w := 2) (n := a 5) (val := oz_sk a) (by omega) (fun i hi => ⟨by
          unfold f_Mod_valueOf
          rw [if_neg (show ¬ (nI 2 = (0 : Int32)) by decide +kernel), if_neg (show ¬ (nI 2 = (1 : Int32)) by decide +kernel), m_skill (by omega), Option.bind_some], v1 i hi⟩)
        unfold f_Mod_most
        rw [oz_bt mi, oz_th0, if_neg (show ¬ (nI 2 = (0 : Int32)) by decide +kernel), if_neg (show ¬ (nI 2 = (1 : Int32)) by decide +kernel), pl_5, oz_ck (by omega) (by omega), oz_md_r]
        simp only [lf_lt]
        rw [show (-1 : Int32) = oz_N from rfl, pl_0, lp, Option.bind_some]
  · have ny : ∀ j, j ≤ 2 → ¬ (x = nI j) := fun j hj e => by
      rw [e, oz_lt (by omega) (by omega), oz_lt (by omega) (by omega)] at m1
      omega
    refine oz_ql I (e := 2) (k := 1) (s1 := s) ?_ oz_kp_rf rfl (by omega) (by omega) (fun x' Ix => ?_)
    · unfold f_Main_most
      simp only [lf_lt]
      rw [if_neg (show ¬ (x = (0 : Int32)) from ny 0 (by omega)), if_neg (show ¬ (x = (1 : Int32)) from ny 1 (by omega)), if_neg (show ¬ (x = (2 : Int32)) from ny 2 (by omega))]
    · unfold f_Mod_most
      rw [oz_bf (show f_Mod_isIn x (0 : Int32) (2 : Int32) = some false from m_isIn_o m1), oz_th1]
theorem q_ahead (I : oz_I s a L n o E T len) (x y z : Int32) : oz_An oz_H30 (f_Main_ahead x y z s) (f_Mod_ahead x y z) := by
  have V := oz_IV I
  have C := oz_IC I
  have hv := oz_V6 V
  rcases oz_isix x (a 3) (by omega) with ⟨k, h1, rfl, _⟩ | ⟨h1, _⟩
  · have v1 := oz_v1 V h1
    unfold oz_V1 at v1
    rcases oz_isr y 0 60 (by omega) (by omega) with ⟨m, m1, m2, rfl, _⟩ | ⟨m1, _⟩
    · refine oz_qr I (v := if z = 0 then nI (min (oz_bed a k 1 + m) 9) else nI (max 1 (oz_bed a k 2 - max 0 (oz_old (oz_bed a k 1) m)))) (s1 := s) ?_ oz_kp_rf (fun x Ix => ?_)
      · unfold f_Main_ahead
        rw [c_nBed_t C h1 (by omega), oz_tb_r, show f_Main_needWithin (nI m) (0 : Int32) (60 : Int32) s = some (Sum.inr (), s) from c_needWithin_t (l := 0) (h := 60) (by omega) m2 (by omega), oz_tb_r]
        by_cases cz : z = 0
        · rw [if_pos cz, if_pos cz, oz_ck (by omega) (by omega), show s.1 (10 + 1 + 2) k = nI (oz_bed a k 1) from b_2 C.2.1 h1, nI_add, pl_9, oz_mn (by omega) (by omega)]
        · rw [if_neg cz, if_neg cz, c_stoolsAhead V C.2.1 h1 m2, Option.bind_some]
      · obtain ⟨t, k1, k2, k3⟩ := m_aside (s := lf_w x 389 0 (nI 0)) (a := a)
        have hg := m_goes (s := t) (d := 0) (f := oz_yr0) (fun a V => oz_yr0_V V) (fun s a V => m_passes0 V) V m2
        have ah := oz_ahead V h1 m
        have hb := m_back (s := t) (a := a) (a' := (oz_yrs oz_yr0 a m).2) k3 ah.2.2
        refine ⟨t, ?_, by rw [k2.1 389 (by omega)]; exact oz_w_s, oz_fr_tr (oz_fr_w (by omega)) (oz_fr_mono k2 (by omega)), fun j hj => by rw [k2.1 389 (by omega), oz_w_n (by omega)]⟩
        unfold f_Mod_ahead
        rw [oz_bt (m_isBed_t h1 (by omega)), oz_bt (show f_Mod_isIn (nI m) (0 : Int32) (60 : Int32) = some true from m_isIn_t (l := 0) (h := 60) (by omega) m2 (by omega)), oz_th0, k1, Option.bind_some]
        have hg' : f_Mod_goes (nI m) (0 : Int32) (oz_md t a) = some (nI (oz_yrs oz_yr0 a m).1, oz_md t (oz_yrs oz_yr0 a m).2) := hg
        rw [hg', Option.bind_some]
        simp only [lf_lt]
        by_cases cz : z = 0
        · rw [if_pos cz, if_pos cz, pl_1, m_ofBed (by omega) (by omega), Option.bind_some, hb, Option.bind_some, ah.1]
        · rw [if_neg cz, if_neg cz, pl_2, m_ofBed (by omega) (by omega), Option.bind_some, hb, Option.bind_some, ah.2.1]
    · refine oz_ql I (e := 0) (k := 2) (s1 := s) ?_ oz_kp_rf rfl (by omega) (by omega) (fun x Ix => ?_)
      · unfold f_Main_ahead
        rw [c_nBed_t C h1 (by omega), oz_tb_r, show f_Main_needWithin y (0 : Int32) (60 : Int32) s = some (Sum.inl 0, s) from c_needWithin_f m1, oz_tb_l]
      · unfold f_Mod_ahead
        rw [oz_bt (m_isBed_t h1 (by omega)), oz_bf (show f_Mod_isIn y (0 : Int32) (60 : Int32) = some false from m_isIn_o m1), oz_th2]
  · refine oz_ql I (e := 3) (k := 1) (s1 := s) ?_ oz_kp_rf rfl (by omega) (by omega) (fun x Ix => ?_)
    · unfold f_Main_ahead
      rw [c_nBed_f C h1, oz_tb_l]
    · unfold f_Mod_ahead
      rw [oz_bf (m_isBed_f h1), oz_th1]
/-! those that always answer -/
theorem oz_case0 {α : Type} [DecidableEq α] {F : Option α} {G : lf_S → Option (α × lf_S)} {v : α} (I : oz_I s a L n o E T len) (hF : F = some v) (hG : ∃ t, G (oz_md s a) = some (v, oz_md t a) ∧ oz_fr (fun p => p = 389 ∨ (3 ≤ p ∧ p < 10) ∨ p = 39 ∨ (40 ≤ p ∧ p < 70) ∨ p = 392 ∨ 395 ≤ p) s t ∧ ∀ j, j = 3 ∨ j = 6 ∨ j = 8 ∨ j = 12 → t.1 389 j = s.1 389 j) : ∃ t, F.bind (fun p1 => (G s).bind (fun p2 => (if p1 = p2.1 then some p2.2 else none))) = some t ∧ oz_Inv t := by
  obtain ⟨t, g1, g2, g3⟩ := hG
  rw [← I.1] at g1
  refine ⟨oz_md t a, ?_, oz_Inv_kp I (oz_kp_md I.1 g2 g3)⟩
  rw [hF, Option.bind_some, g1, Option.bind_some]
  exact if_pos rfl
theorem q_fills (I : oz_I s a L n o E T len) : ∃ t, f_case_26 s = some t ∧ oz_Inv t := by
  have V := oz_IV I
  have C := oz_IC I
  obtain ⟨t, k1, k2⟩ := m_mostFilled (s := lf_w s 389 0 (nI 0)) V
  refine oz_case0 I (F := f_Main_fills s) (G := f_Mod_fills) (v := nI (oz_fills a)) ?_ ⟨t, ?_, oz_fr_tr (oz_fr_w (by omega)) (oz_fr_mono k2 (by omega)), fun j hj => by rw [k2.1 389 (by omega), oz_w_n (by omega)]⟩
  · unfold f_Main_fills
    rw [c_bestFills V C, Option.bind_some]
  · unfold f_Mod_fills
    simp only [lf_lt]
    rw [oz_go0w, k1, Option.bind_some]
theorem q_worth (I : oz_I s a L n o E T len) : ∃ t, f_case_25 s = some t ∧ oz_Inv t := by
  have V := oz_IV I
  have C := oz_IC I
  have hv := oz_V6 V
  have h64 : oz_fills a < 64 := by
    have h := oz_best_lt (val := oz_psum a) (ok := oz_can a) (2 ^ a 6 - 1)
    have p := oz_p64 (n := a 6) (by omega)
    have p1 : 1 ≤ 2 ^ a 6 := Nat.one_le_two_pow
    have e : oz_fills a = oz_best (oz_psum a) (oz_can a) (2 ^ a 6 - 1) := rfl
    omega
  have ok : oz_can a (oz_fills a) = true := oz_best_ok (oz_can_0 V) _
  obtain ⟨t, k1, k2⟩ := m_mostFilled (s := lf_w s 389 0 (nI 0)) V
  obtain ⟨u, l1, l2⟩ := m_filled (s := t) V h64
  rw [ok, if_pos (show true = true from rfl)] at l1
  refine oz_case0 I (F := f_Main_worth s) (G := f_Mod_worth) (v := nI (oz_psum a (oz_fills a))) ?_ ⟨u, ?_, oz_fr_tr (oz_fr_w (by omega)) (oz_fr_tr (oz_fr_mono k2 (by omega)) (oz_fr_mono l2 (by omega))), fun j hj => by rw [l2.1 389 (by omega), k2.1 389 (by omega), oz_w_n (by omega)]⟩
  · unfold f_Main_worth
    rw [c_bestFills V C, Option.bind_some, c_payOf V C h64, Option.bind_some]
  · unfold f_Mod_worth
    simp only [lf_lt]
    rw [oz_go0w, k1, Option.bind_some, l1, Option.bind_some]
theorem m_openLoop (V : oz_V a) : f_Mod_open_12 (1 : Int32) 5000 (nI (oz_opens a)) (nI 0) (oz_md s a) = some (nI (oz_set (fun o => oz_opn a o && oz_has a o) (a 6)), oz_md s a) := by
  have hv := oz_V6 V
  have ob : ∀ j, (oz_opens a).testBit j = (decide (j < a 6) && oz_opn a j) := fun j => by
    unfold oz_opens
    rw [oz_set_bit]
    rfl
  have key := (oz_forI (N := a 6) (fun i (x : Nat) => x < 64 ∧ ∀ j, x.testBit j = (decide (j < a 6) && (oz_opn a j && (oz_has a j || decide (i ≤ j))))) (fun f i (x : Nat) => f_Mod_open_12 (1 : Int32) f (nI x) (nI i) (oz_md s a)) (fun i x => if oz_has a i = true then x else oz_clr x i) (fun x => (nI x, oz_md s a)) (oz_opens a) ⟨oz_opens_lt V, fun j => by
      rw [ob j]
      cases oz_opn a j <;> cases oz_has a j <;> simp⟩ (by
      intro i x hi hx
      obtain ⟨x1, x2⟩ := hx
      by_cases c : oz_has a i = true
      · rw [if_pos c]
        refine ⟨x1, fun j => ?_⟩
        rw [x2 j]
        by_cases cj : j = i
        · subst cj
          rw [c]
          simp
        · rw [show decide (i ≤ j) = decide (i + 1 ≤ j) from decide_eq_decide.mpr ⟨fun h => by omega, fun h => by omega⟩]
      · have c' : oz_has a i = false := by
          cases h : oz_has a i with
          | false => rfl
          | true => exact absurd h c
        rw [if_neg c]
        refine ⟨oz_clr_l x x1 i (by omega), fun j => ?_⟩
        by_cases cl : j < 6
        · rw [oz_clr_b x x1 i (by omega) j cl, x2 j]
          by_cases cj : j = i
          · subst cj
            rw [c']
            simp
          · rw [show decide (i ≤ j) = decide (i + 1 ≤ j) from decide_eq_decide.mpr ⟨fun h => by omega, fun h => by omega⟩, show (j == i) = false from beq_eq_false_iff_ne.mpr cj]
            simp
        · have h64 := oz_clr_l x x1 i (by omega)
          have : (oz_clr x i).testBit j = false := Nat.testBit_lt_two_pow (Nat.lt_of_lt_of_le h64 (Nat.pow_le_pow_right (show 0 < 2 by omega) (show 6 ≤ j by omega)))
          rw [this, decide_eq_false (show ¬ (j < a 6) by omega)]
          rfl) (by
      intro f x hx
      rw [f_Mod_open_12, pl_6, oz_ck (by omega) (by omega), oz_md_r, oz_ile_t (Nat.le_refl _) (by omega)]) (by
      intro f i x hi hx
      rw [f_Mod_open_12, pl_6, oz_ck (by omega) (by omega), oz_md_r, oz_ile_f hi (by omega), if_neg (show ¬ ((1 : Int32) = 0) by decide +kernel), m_hasRods V hi, Option.bind_some]
      by_cases c : oz_has a i = true
      · rw [if_pos c, if_pos c]
        simp only [lf_lt, pl_1, nI_add]
      · rw [if_neg c, if_neg c]
        simp only [lf_lt]
        rw [show (-1 : Int32) = oz_N from rfl, pl_1, pl_31, oz_clr_i x hx.1 i (by omega), nI_add]) 5000 (by omega))
  obtain ⟨k1, k2⟩ := key
  have e : oz_it (fun i x => if oz_has a i = true then x else oz_clr x i) (a 6) (oz_opens a) = oz_set (fun o => oz_opn a o && oz_has a o) (a 6) := by
    refine Nat.eq_of_testBit_eq (fun j => ?_)
    rw [k2.2 j, oz_set_bit]
    by_cases cj : j < a 6
    · rw [show decide (a 6 ≤ j) = false from decide_eq_false (by omega), Bool.or_false]
    · rw [decide_eq_false cj]
      rfl
  rw [e] at k1
  exact k1
theorem q_open (I : oz_I s a L n o E T len) (x : Int32) : ∃ t, f_case_39 x s = some t ∧ oz_Inv t := by
  have V := oz_IV I
  have C := oz_IC I
  have hv := oz_V6 V
  have fin : ∀ j, j = 3 ∨ j = 6 ∨ j = 8 ∨ j = 12 → (lf_w s 389 0 (nI 0)).1 389 j = s.1 389 j := fun j hj => oz_w_n (by omega)
  unfold f_case_39
  by_cases c : x = 0
  · simp only [if_pos c]
    refine oz_case0 I (F := f_Main_open (0 : Int32) s) (G := f_Mod_open (0 : Int32)) (v := nI (oz_opens a)) ?_ ⟨_, ?_, oz_fr_w (by omega), fin⟩
    · unfold f_Main_open
      rw [if_pos (show (0 : Int32) = 0 from rfl), show s.1 (10 + 18) 1 = nI (oz_opens a) from o_o C.2.2.2.2.1]
    · unfold f_Mod_open
      simp only [lf_lt]
      rw [oz_go0w, m_openOnes V, Option.bind_some]
      have e : f_Mod_open_12 (0 : Int32) 5000 (nI (oz_opens a)) (0 : Int32) (oz_md (lf_w s 389 0 (nI 0)) a) = some (nI (oz_opens a), oz_md (lf_w s 389 0 (nI 0)) a) := by
        rw [f_Mod_open_12, pl_6, oz_ck (by omega) (by omega), oz_md_r, if_pos (show (0 : Int32) = 0 from rfl)]
        exact ite_self _
      rw [e, Option.bind_some]
  · simp only [if_neg c]
    refine oz_case0 I (F := f_Main_open (1 : Int32) s) (G := f_Mod_open (1 : Int32)) (v := nI (oz_set (fun o => oz_opn a o && oz_has a o) (a 6))) ?_ ⟨_, ?_, oz_fr_w (by omega), fin⟩
    · unfold f_Main_open
      rw [if_neg (show ¬ ((1 : Int32) = 0) by decide +kernel), c_canMakeBits V C, Option.bind_some]
    · unfold f_Mod_open
      simp only [lf_lt]
      rw [oz_go0w, m_openOnes V, Option.bind_some, pl_0, m_openLoop V, Option.bind_some]
end
