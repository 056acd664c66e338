/-! ===== a line of a holt's text, the class's ===== -/
def oz_tl (b : Nat) (s : lf_S) : Option lf_S := (f_Tape_takeWord 36 s).bind (fun p5 => (if p5.1 = true then (f_Tape_takeNumber (1 : Int32) (6 : Int32) p5.2).bind (fun p18 => lf_lt p18.1 (fun y19 => (f_Tape_takeNumber (0 : Int32) (999 : Int32) p18.2).bind (fun p20 => lf_ck y19 7 (fun k21 => lf_lt (lf_w p20.2 (b + 23) k21 p20.1) (fun s22 => some s22))))) else (f_Tape_takeWord 37 p5.2).bind (fun p6 => (if p6.1 = true then (f_Tape_takeNumber (0 : Int32) (100 : Int32) p6.2).bind (fun p16 => lf_lt (lf_w p16.2 b 7 p16.1) (fun s17 => some s17)) else (f_Tape_takeWord 38 p6.2).bind (fun p7 => (if p7.1 = true then (f_Tape_takeNumber (0 : Int32) (999 : Int32) p7.2).bind (fun p14 => lf_lt (lf_w p14.2 b 8 p14.1) (fun s15 => some s15)) else (f_Tape_takeWord 39 p7.2).bind (fun p8 => (if p8.1 = true then (f_Tape_takeNumber (0 : Int32) (999 : Int32) p8.2).bind (fun p12 => lf_lt (lf_w p12.2 b 9 p12.1) (fun s13 => some s13)) else (f_Tape_takeWord 40 p8.2).bind (fun p9 => (if p9.1 = true then lf_lt (lf_w p9.2 b 11 (1 : Int32)) (fun s11 => some s11) else (f_Tape_fail p9.2).bind (fun p10 => some p10)))))))))))
def oz_r35 (b : Nat) (s : lf_S) : Option lf_S := (f_Tape_isWord 35 s).bind (fun p4 => (if p4 = true then (if (6 : Int32) ≤ (s.1 (b + 18) 0) then oz_tl b s else (f_HoltText_readOrder b s).bind (fun p41 => some p41)) else oz_tl b s))
def oz_r34 (b : Nat) (s : lf_S) : Option lf_S := (f_Tape_isWord 34 s).bind (fun p4 => (if p4 = true then (if (5 : Int32) ≤ (s.1 (b + 15) 0) then oz_r35 b s else (f_HoltText_readHand (b + 15) s).bind (fun p41 => some p41)) else oz_r35 b s))
def oz_r33 (b : Nat) (s : lf_S) : Option lf_S := (f_Tape_isWord 33 s).bind (fun p4 => (if p4 = true then (if (5 : Int32) ≤ (s.1 (b + 6) 0) then oz_r34 b s else (f_HoltText_readBasket (b + 6) s).bind (fun p41 => some p41)) else oz_r34 b s))
theorem oz_r32 {b : Nat} {s : lf_S} : f_HoltText_readLine b s = (f_Tape_isWord 32 s).bind (fun p4 => (if p4 = true then (if (6 : Int32) ≤ (s.1 (b + 1) 0) then oz_r33 b s else (f_HoltText_readBed (b + 1) s).bind (fun p41 => some p41)) else oz_r33 b s)) := rfl
/-- what a line leaves: where the reading stands, and the row -/
def oz_tls (T : Nat → Nat) (len : Nat) (a : Nat → Nat) (p : Nat) : (Nat ⊕ Nat) × (Nat → Nat) :=
  if oz_wd T len 36 p = true then ((oz_rdl T len (oz_toW T len 36 (Sum.inr p))).2, oz_up a (37 + (oz_rdl T len (oz_toW T len 36 (Sum.inr p))).1.1 - 1) (oz_rdl T len (oz_toW T len 36 (Sum.inr p))).1.2)
  else if oz_wd T len 37 p = true then (oz_nmS T len 0 (nI 100) (oz_toW T len 37 (Sum.inr p)), oz_up a 7 (oz_nmV T len 0 (nI 100) (oz_toW T len 37 (Sum.inr p))))
  else if oz_wd T len 38 p = true then (oz_nmS T len 0 (nI 999) (oz_toW T len 38 (Sum.inr p)), oz_up a 8 (oz_nmV T len 0 (nI 999) (oz_toW T len 38 (Sum.inr p))))
  else if oz_wd T len 39 p = true then (oz_nmS T len 0 (nI 999) (oz_toW T len 39 (Sum.inr p)), oz_up a 9 (oz_nmV T len 0 (nI 999) (oz_toW T len 39 (Sum.inr p))))
  else if oz_wd T len 40 p = true then (oz_toW T len 40 (Sum.inr p), oz_up a 10 1)
  else (Sum.inl p, a)
def oz_hol (T : Nat → Nat) (len : Nat) (a : Nat → Nat) (p : Nat) : (Nat ⊕ Nat) × (Nat → Nat) :=
  if oz_wd T len 32 p = true ∧ a 3 < 6 then ((oz_bdl T len (oz_toW T len 32 (Sum.inr p))).2, oz_bdu a (oz_bdl T len (oz_toW T len 32 (Sum.inr p))).1)
  else if oz_wd T len 33 p = true ∧ a 4 < 5 then (oz_bs4 T len (oz_toW T len 33 (Sum.inr p)), oz_kdu a (oz_bsv T len (oz_toW T len 33 (Sum.inr p))) (oz_bsw T len (oz_toW T len 33 (Sum.inr p))).2.1 (oz_bsw T len (oz_toW T len 33 (Sum.inr p))).1)
  else if oz_wd T len 34 p = true ∧ a 5 < 5 then ((oz_hdl T len (oz_toW T len 34 (Sum.inr p))).2, oz_hdu a (oz_hdl T len (oz_toW T len 34 (Sum.inr p))).1)
  else if oz_wd T len 35 p = true ∧ a 6 < 6 then ((oz_odl T len (nI (a 4) - nI 1) (oz_toW T len 35 (Sum.inr p))).2, oz_odu a (oz_odl T len (nI (a 4) - nI 1) (oz_toW T len 35 (Sum.inr p))).1)
  else oz_tls T len a p
def oz_LC (T : Nat → Nat) (len b : Nat) (s : lf_S) (f : Option lf_S) (x : (Nat ⊕ Nat) × (Nat → Nat)) : Prop := ∃ u, f = some u ∧ oz_CX u T len x.1 ∧ (∀ p', x.1 = Sum.inr p' → oz_C u b x.2 ∧ oz_V x.2) ∧ oz_fr (fun q => q = 1 ∨ (b ≤ q ∧ q < b + 24)) s u
theorem oz_bt {α : Type} {x : Option Bool} {A B : Option α} (h : x = some true) : x.bind (fun p => if p = true then A else B) = A := by rw [h]; rfl
theorem oz_bf {α : Type} {x : Option Bool} {A B : Option α} (h : x = some false) : x.bind (fun p => if p = true then A else B) = B := by rw [h]; rfl
theorem oz_tkt {α : Type} {x : Option (Bool × lf_S)} {u : lf_S} {A B : Bool × lf_S → Option α} (h : x = some (true, u)) : x.bind (fun p => if p.1 = true then A p else B p) = A (true, u) := by rw [h]; rfl
theorem oz_tkf {α : Type} {x : Option (Bool × lf_S)} {u : lf_S} {A B : Bool × lf_S → Option α} (h : x = some (false, u)) : x.bind (fun p => if p.1 = true then A p else B p) = B (false, u) := by rw [h]; rfl
section
variable {s u : lf_S} {T : Nat → Nat} {len : Nat} {a : Nat → Nat} {b : Nat}
theorem oz_C_sto (V : oz_V a) (C : oz_C s b a) {f v : Nat} (h1 : 1 ≤ f) (h6 : f ≤ 6) : oz_C (lf_w s (b + 23) f (nI v)) b (oz_up a (37 + f - 1) v) := by
  have e : ∀ i, (i < 37 ∨ 43 ≤ i) → oz_up a (37 + f - 1) v i = a i := fun i hi => oz_up_n (by omega)
  have o : ∀ p, p ≠ b + 23 → (lf_w s (b + 23) f (nI v)).1 p = s.1 p := fun p hp => oz_w_o hp
  refine ⟨oz_C0_cg C.1 (o b (by omega)) (e _ (by omega)) (fun i h1 h2 => e i (by omega)) (e _ (by omega)), oz_CB_cg V C.2.1 (fun p h1 h2 => o p (by omega)) (e _ (by omega)) (fun i h1 h2 => e i (by omega)), oz_CK_cg V C.2.2.1 (fun p h1 h2 => o p (by omega)) (e _ (by omega)) (fun i h1 h2 => e i (by omega)), oz_CH_cg V C.2.2.2.1 (fun p h1 h2 => o p (by omega)) (e _ (by omega)) (fun i h1 h2 => e i (by omega)), oz_CO_cg V C.2.2.2.2.1 (fun p h1 h2 => o p (by omega)) (e _ (by omega)) (fun i h1 h2 => e i (by omega)), oz_CL_cg V C.2.2.2.2.2.1 (fun p h1 h2 => o p (by omega)) (e _ (by omega)) (fun i h1 h2 => e i (by omega)), fun g g1 g6 => ?_⟩
  have eg : oz_sto (oz_up a (37 + f - 1) v) g = if g = f then v else oz_sto a g := by
    unfold oz_sto
    by_cases c : g = f
    · rw [if_pos c, c, oz_up_s]
    · rw [if_neg c, oz_up_n (by omega)]
  rw [eg]
  by_cases c : g = f
  · rw [if_pos c, c, oz_w_s]
  · rw [if_neg c, oz_w_n c]
    exact C.2.2.2.2.2.2 g g1 g6
theorem oz_CX_w {st : Nat ⊕ Nat} {q i : Nat} {v : Int32} (X : oz_CX s T len st) (hq : 10 ≤ q) : oz_CX (lf_w s q i v) T len st := oz_CX_fr X (oz_w_o (by omega)) (oz_w_o (by omega))
theorem oz_V6 (V : oz_V a) : a 0 ≤ 12 ∧ a 3 ≤ 6 ∧ a 4 ≤ 5 ∧ a 5 ≤ 5 ∧ a 6 ≤ 6 := by
  have h := oz_v0 V
  unfold oz_V0 at h
  omega
theorem c_tl {p : Nat} (V : oz_V a) (C : oz_C s b a) (X : oz_CX s T len (Sum.inr p)) (hb : 10 ≤ b) : oz_LC T len b s (oz_tl b s) (oz_tls T len a p) := by
  have md : ∀ {x y : lf_S}, oz_fr (fun p => p = 1) x y → oz_fr (fun q => q = 1 ∨ (b ≤ q ∧ q < b + 24)) x y := fun h => oz_fr_mono h (fun p hp => Or.inl hp)
  have Cf : ∀ {y : lf_S}, oz_fr (fun p => p = 1) s y → oz_C y b a := fun h => oz_C_fr V C (fun p h1 h2 => h.1 p (by omega))
  unfold oz_tl oz_tls
  obtain ⟨t1, a1, a2, a3⟩ := c_takeWord X 36 (by decide +kernel)
  have i1 : oz_isW T len 36 (Sum.inr p) = oz_wd T len 36 p := rfl
  rw [i1] at a1
  cases w1 : oz_wd T len 36 p with
  | true =>
    rw [w1] at a1
    rw [oz_tkt a1, if_pos (show true = true from rfl)]
    obtain ⟨t2, d1, d2, d3⟩ := c_takeNumber a2 (lo := 1) (hi := nI 6) (by omega)
    obtain ⟨t3, e1, e2, e3⟩ := c_takeNumber d2 (lo := 0) (hi := nI 999) (by omega)
    have b1 := oz_nmV_le (T := T) (len := len) (lo := 1) (h := 6) (by omega) (by omega) (oz_CX_l a2)
    have b2 := oz_nmV_le (T := T) (len := len) (lo := 0) (h := 999) (by omega) (by omega) (oz_CX_l d2)
    have f3 := oz_fr_tr a3 (oz_fr_tr d3 e3)
    simp only [lf_lt, pl_0, pl_1, pl_6, pl_999]
    rw [d1, Option.bind_some]
    try dsimp only
    rw [e1, Option.bind_some, oz_ck (by omega) (by omega)]
    exact ⟨_, rfl, oz_CX_w e2 (by omega), fun p' hp' => ⟨oz_C_sto V (Cf f3) b1.1 b1.2, oz_V_sto V b1.1 b1.2 (by show oz_nmV T len 0 (nI 999) _ ≤ 9999; omega)⟩, oz_fr_tr (md f3) (oz_fr_w (by omega))⟩
  | false =>
    rw [w1] at a1
    rw [oz_toW_f (show oz_isW T len 36 (Sum.inr p) = false from w1)] at a2
    rw [oz_tkf a1, if_neg (show ¬ (false = true) from Bool.noConfusion)]
    obtain ⟨t2, d1, d2, d3⟩ := c_takeWord a2 37 (by decide +kernel)
    have i2 : oz_isW T len 37 (Sum.inr p) = oz_wd T len 37 p := rfl
    rw [i2] at d1
    have f2 := oz_fr_tr a3 d3
    cases w2 : oz_wd T len 37 p with
    | true =>
      rw [w2] at d1
      rw [oz_tkt d1, if_pos (show true = true from rfl)]
      obtain ⟨t3, e1, e2, e3⟩ := c_takeNumber d2 (lo := 0) (hi := nI 100) (by omega)
      have b2 := oz_nmV_le (T := T) (len := len) (lo := 0) (h := 100) (by omega) (by omega) (oz_CX_l d2)
      have f3 := oz_fr_tr f2 e3
      simp only [lf_lt, pl_0, pl_100]
      rw [e1, Option.bind_some]
      exact ⟨_, rfl, oz_CX_w e2 (by omega), fun p' hp' => ⟨oz_C_num V (Cf f3) (by omega), oz_V_up V (Or.inr (Or.inl ⟨rfl, b2.2⟩))⟩, oz_fr_tr (md f3) (oz_fr_w (by omega))⟩
    | false =>
      rw [w2] at d1
      rw [oz_toW_f (show oz_isW T len 37 (Sum.inr p) = false from w2)] at d2
      rw [oz_tkf d1, if_neg (show ¬ (false = true) from Bool.noConfusion)]
      obtain ⟨t3, e1, e2, e3⟩ := c_takeWord d2 38 (by decide +kernel)
      have i3 : oz_isW T len 38 (Sum.inr p) = oz_wd T len 38 p := rfl
      rw [i3] at e1
      have f3 := oz_fr_tr f2 e3
      cases w3 : oz_wd T len 38 p with
      | true =>
        rw [w3] at e1
        rw [oz_tkt e1, if_pos (show true = true from rfl)]
        obtain ⟨t4, g1, g2, g3⟩ := c_takeNumber e2 (lo := 0) (hi := nI 999) (by omega)
        have b2 := oz_nmV_le (T := T) (len := len) (lo := 0) (h := 999) (by omega) (by omega) (oz_CX_l e2)
        have f4 := oz_fr_tr f3 g3
        simp only [lf_lt, pl_0, pl_999]
        rw [g1, Option.bind_some]
        exact ⟨_, rfl, oz_CX_w g2 (by omega), fun p' hp' => ⟨oz_C_num V (Cf f4) (by omega), oz_V_up V (Or.inr (Or.inr (Or.inl ⟨rfl, by omega⟩)))⟩, oz_fr_tr (md f4) (oz_fr_w (by omega))⟩
      | false =>
        rw [w3] at e1
        rw [oz_toW_f (show oz_isW T len 38 (Sum.inr p) = false from w3)] at e2
        rw [oz_tkf e1, if_neg (show ¬ (false = true) from Bool.noConfusion)]
        obtain ⟨t4, g1, g2, g3⟩ := c_takeWord e2 39 (by decide +kernel)
        have i4 : oz_isW T len 39 (Sum.inr p) = oz_wd T len 39 p := rfl
        rw [i4] at g1
        have f4 := oz_fr_tr f3 g3
        cases w4 : oz_wd T len 39 p with
        | true =>
          rw [w4] at g1
          rw [oz_tkt g1, if_pos (show true = true from rfl)]
          obtain ⟨t5, j1, j2, j3⟩ := c_takeNumber g2 (lo := 0) (hi := nI 999) (by omega)
          have b2 := oz_nmV_le (T := T) (len := len) (lo := 0) (h := 999) (by omega) (by omega) (oz_CX_l g2)
          have f5 := oz_fr_tr f4 j3
          simp only [lf_lt, pl_0, pl_999]
          rw [j1, Option.bind_some]
          exact ⟨_, rfl, oz_CX_w j2 (by omega), fun p' hp' => ⟨oz_C_num V (Cf f5) (by omega), oz_V_up V (Or.inr (Or.inr (Or.inr (Or.inl ⟨rfl, by omega⟩))))⟩, oz_fr_tr (md f5) (oz_fr_w (by omega))⟩
        | false =>
          rw [w4] at g1
          rw [oz_toW_f (show oz_isW T len 39 (Sum.inr p) = false from w4)] at g2
          rw [oz_tkf g1, if_neg (show ¬ (false = true) from Bool.noConfusion)]
          obtain ⟨t5, j1, j2, j3⟩ := c_takeWord g2 40 (by decide +kernel)
          have i5 : oz_isW T len 40 (Sum.inr p) = oz_wd T len 40 p := rfl
          rw [i5] at j1
          have f5 := oz_fr_tr f4 j3
          cases w5 : oz_wd T len 40 p with
          | true =>
            rw [w5] at j1
            rw [oz_tkt j1, if_pos (show true = true from rfl)]
            simp only [lf_lt, pl_1]
            exact ⟨_, rfl, oz_CX_w j2 (by omega), fun p' hp' => ⟨oz_C_num V (Cf f5) (by omega), oz_V_up V (Or.inr (Or.inr (Or.inr (Or.inr (Or.inl ⟨rfl, Nat.le_refl _⟩)))))⟩, oz_fr_tr (md f5) (oz_fr_w (by omega))⟩
          | false =>
            rw [w5] at j1
            rw [oz_toW_f (show oz_isW T len 40 (Sum.inr p) = false from w5)] at j2
            rw [oz_tkf j1, if_neg (show ¬ (false = true) from Bool.noConfusion)]
            obtain ⟨t6, k1, k2, k3⟩ := c_fail j2
            try dsimp only
            rw [k1, Option.bind_some]
            exact ⟨_, rfl, k2, fun p' hp' => (nomatch hp'), md (oz_fr_tr f5 k3)⟩
theorem oz_ndW_t {t p : Nat} (h : oz_wd T len t p = true) : oz_ndW T len t (Sum.inr p) = oz_toW T len t (Sum.inr p) := if_pos h
theorem oz_toW_t {t p : Nat} (h : oz_wd T len t p = true) : oz_toW T len t (Sum.inr p) = Sum.inr (oz_sb T len (p + (mj_tx t).length)) := if_pos h
theorem oz_wd_le {t p : Nat} (h : oz_wd T len t p = true) : oz_sb T len (p + (mj_tx t).length) ≤ len := by
  unfold oz_wd at h
  rw [Bool.and_eq_true] at h
  exact (oz_sb_le (of_decide_eq_true h.1)).2
theorem oz_nmS_le {lo q : Nat} {hi : Int32} {st : Nat ⊕ Nat} (hl : ∀ p, st = Sum.inr p → p ≤ len) (h : oz_nmS T len lo hi st = Sum.inr q) : q ≤ len := by
  cases st with
  | inl q => exact nomatch h
  | inr p =>
    have e : oz_nmS T len lo hi (Sum.inr p) = if oz_nm1 T len lo hi p = true then Sum.inr (oz_sb T len (oz_dgs T len 4 p 0).1) else Sum.inl p := rfl
    rw [e] at h
    split at h
    · cases h
      exact (oz_sb_le (oz_dgs_le (T := T) 4 p 0 (hl p rfl)).2.2.1).2
    · exact nomatch h
theorem oz_ndW_le {t q : Nat} {st : Nat ⊕ Nat} (h : oz_ndW T len t st = Sum.inr q) : q ≤ len := by
  cases st with
  | inl q => exact nomatch h
  | inr p =>
    by_cases c : oz_wd T len t p = true
    · rw [oz_ndW_t c, oz_toW_t c] at h
      cases h
      exact oz_wd_le c
    · have e : oz_ndW T len t (Sum.inr p) = Sum.inl p := if_neg c
      rw [e] at h
      exact nomatch h
/-- a number read is in its bounds -/
theorem oz_odn {p' k : Nat} {st : Nat ⊕ Nat} (hk : k ≤ 5) (hl : ∀ p, st = Sum.inr p → p ≤ len) (h : oz_nmS T len 0 (nI k - nI 1) st = Sum.inr p') : oz_nmV T len 0 (nI k - nI 1) st < k := by
  by_cases c : k = 0
  · exfalso
    subst c
    obtain ⟨q, rfl⟩ := oz_nmS_r h
    have e : oz_nmS T len 0 (nI 0 - nI 1) (Sum.inr q) = if oz_nm1 T len 0 (nI 0 - nI 1) q = true then Sum.inr (oz_sb T len (oz_dgs T len 4 q 0).1) else Sum.inl q := rfl
    rw [e] at h
    split at h
    · rename_i z
      have z4 := (of_decide_eq_true z).2.2.2
      have hd := oz_dgs_le (T := T) 4 q 0 (hl q rfl)
      have hd2 : (oz_dgs T len 4 q 0).2 ≤ 10000 := hd.2.2.2
      rw [show nI 0 - nI 1 = oz_N by decide +kernel] at z4
      exact absurd z4 (of_eq_false (oz_lem1 (by omega)))
    · exact nomatch h
  · rw [oz_sub (by omega)]
    have := oz_nmV_le (T := T) (len := len) (lo := 0) (h := k - 1) (st := st) (by omega) (by omega) hl
    omega
theorem c_r35 {p : Nat} (V : oz_V a) (C : oz_C s b a) (X : oz_CX s T len (Sum.inr p)) (hb : 10 ≤ b) : oz_LC T len b s (oz_r35 b s) (if oz_wd T len 35 p = true ∧ a 6 < 6 then ((oz_odl T len (nI (a 4) - nI 1) (oz_toW T len 35 (Sum.inr p))).2, oz_odu a (oz_odl T len (nI (a 4) - nI 1) (oz_toW T len 35 (Sum.inr p))).1) else oz_tls T len a p) := by
  have hv := oz_V6 V
  unfold oz_r35
  have w := c_isWord X 35 (by decide +kernel)
  have i : oz_isW T len 35 (Sum.inr p) = oz_wd T len 35 p := rfl
  rw [i] at w
  cases c : oz_wd T len 35 p with
  | false =>
    rw [c] at w
    rw [oz_bf w, if_neg (fun z => Bool.noConfusion z.1)]
    exact c_tl V C X hb
  | true =>
    rw [c] at w
    rw [oz_bt w, o_0 C.2.2.2.2.1, pl_6]
    by_cases c2 : a 6 < 6
    · rw [if_pos (show true = true ∧ a 6 < 6 from ⟨rfl, c2⟩), oz_ile_f c2 (by omega)]
      obtain ⟨u, k1, k2, k3⟩ := c_readOrder X (b := b) (n := a 6) (x := oz_opens a) (k := a 4) hb c2 (o_0 C.2.2.2.2.1) (o_o C.2.2.2.2.1) (oz_opens_lt V) (k_0 C.2.2.1)
      rw [oz_ndW_t c] at k1 k2
      rw [k1, Option.bind_some]
      refine ⟨_, rfl, ?_, fun p' hp' => ?_, ?_⟩
      · unfold oz_odw
        exact oz_CX_w (oz_CX_w (oz_CX_w (oz_CX_w k2 (by omega)) (by omega)) (by omega)) (by omega)
      · have hl : ∀ p2, oz_toW T len 35 (Sum.inr p) = Sum.inr p2 → p2 ≤ len := fun p2 h => by
          rw [oz_toW_t c] at h
          cases h
          exact oz_wd_le c
        obtain ⟨p1, hp1⟩ := oz_nmS_r hp'
        have h1 := oz_odn (T := T) (len := len) (by omega) hl hp1
        have b2 := oz_nmV_le (T := T) (len := len) (lo := 1) (h := 9) (st := oz_nmS T len 0 (nI (a 4) - nI 1) (oz_toW T len 35 (Sum.inr p))) (by omega) (by omega) (fun p2 h => oz_nmS_le hl h)
        exact ⟨oz_C_odu V C hb c2 k3, oz_V_odu V c2 h1 b2.1 b2.2⟩
      · unfold oz_odw
        exact oz_fr_tr (oz_fr_mono k3 (fun p hp => Or.inl hp)) (oz_fr_tr (oz_fr_w (by omega)) (oz_fr_tr (oz_fr_w (by omega)) (oz_fr_tr (oz_fr_w (by omega)) (oz_fr_w (by omega)))))
    · rw [oz_ile_t (by omega) (by omega), if_neg (fun z : true = true ∧ a 6 < 6 => c2 z.2)]
      exact c_tl V C X hb
theorem c_r34 {p : Nat} (V : oz_V a) (C : oz_C s b a) (X : oz_CX s T len (Sum.inr p)) (hb : 10 ≤ b) : oz_LC T len b s (oz_r34 b s) (if oz_wd T len 34 p = true ∧ a 5 < 5 then ((oz_hdl T len (oz_toW T len 34 (Sum.inr p))).2, oz_hdu a (oz_hdl T len (oz_toW T len 34 (Sum.inr p))).1) else if oz_wd T len 35 p = true ∧ a 6 < 6 then ((oz_odl T len (nI (a 4) - nI 1) (oz_toW T len 35 (Sum.inr p))).2, oz_odu a (oz_odl T len (nI (a 4) - nI 1) (oz_toW T len 35 (Sum.inr p))).1) else oz_tls T len a p) := by
  have hv := oz_V6 V
  unfold oz_r34
  have w := c_isWord X 34 (by decide +kernel)
  have i : oz_isW T len 34 (Sum.inr p) = oz_wd T len 34 p := rfl
  rw [i] at w
  cases c : oz_wd T len 34 p with
  | false =>
    rw [c] at w
    rw [oz_bf w, if_neg (fun z => Bool.noConfusion z.1)]
    exact c_r35 V C X hb
  | true =>
    rw [c] at w
    rw [oz_bt w, h_0 C.2.2.2.1, pl_5]
    by_cases c2 : a 5 < 5
    · rw [if_pos (show true = true ∧ a 5 < 5 from ⟨rfl, c2⟩), oz_ile_f c2 (by omega)]
      obtain ⟨u, k1, k2, k3⟩ := c_readHand X (b := b + 15) (n := a 5) (by omega) c2 (h_0 C.2.2.2.1)
      rw [oz_ndW_t c] at k1 k2
      rw [k1, Option.bind_some]
      refine ⟨_, rfl, ?_, fun p' hp' => ?_, ?_⟩
      · unfold oz_hdw
        exact oz_CX_w (oz_CX_w (oz_CX_w k2 (by omega)) (by omega)) (by omega)
      · have b1 := oz_nmV_le (T := T) (len := len) (lo := 1) (h := 9) (st := oz_ndW T len 52 (oz_toW T len 34 (Sum.inr p))) (by omega) (by omega) (fun p2 h => oz_ndW_le h)
        have b2 := oz_nmV_le (T := T) (len := len) (lo := 0) (h := 99) (st := oz_ndW T len 53 (oz_nmS T len 1 (nI 9) (oz_ndW T len 52 (oz_toW T len 34 (Sum.inr p))))) (by omega) (by omega) (fun p2 h => oz_ndW_le h)
        exact ⟨oz_C_hdu V C hb c2 k3, oz_V_hdu V c2 b1.1 b1.2 b2.2⟩
      · unfold oz_hdw
        exact oz_fr_tr (oz_fr_mono k3 (fun p hp => Or.inl hp)) (oz_fr_tr (oz_fr_w (by omega)) (oz_fr_tr (oz_fr_w (by omega)) (oz_fr_w (by omega))))
    · rw [oz_ile_t (by omega) (by omega), if_neg (fun z : true = true ∧ a 5 < 5 => c2 z.2)]
      exact c_r35 V C X hb
theorem c_r33 {p : Nat} (V : oz_V a) (C : oz_C s b a) (X : oz_CX s T len (Sum.inr p)) (hb : 10 ≤ b) : oz_LC T len b s (oz_r33 b s) (if oz_wd T len 33 p = true ∧ a 4 < 5 then (oz_bs4 T len (oz_toW T len 33 (Sum.inr p)), oz_kdu a (oz_bsv T len (oz_toW T len 33 (Sum.inr p))) (oz_bsw T len (oz_toW T len 33 (Sum.inr p))).2.1 (oz_bsw T len (oz_toW T len 33 (Sum.inr p))).1) else if oz_wd T len 34 p = true ∧ a 5 < 5 then ((oz_hdl T len (oz_toW T len 34 (Sum.inr p))).2, oz_hdu a (oz_hdl T len (oz_toW T len 34 (Sum.inr p))).1) else if oz_wd T len 35 p = true ∧ a 6 < 6 then ((oz_odl T len (nI (a 4) - nI 1) (oz_toW T len 35 (Sum.inr p))).2, oz_odu a (oz_odl T len (nI (a 4) - nI 1) (oz_toW T len 35 (Sum.inr p))).1) else oz_tls T len a p) := by
  have hv := oz_V6 V
  unfold oz_r33
  have w := c_isWord X 33 (by decide +kernel)
  have i : oz_isW T len 33 (Sum.inr p) = oz_wd T len 33 p := rfl
  rw [i] at w
  cases c : oz_wd T len 33 p with
  | false =>
    rw [c] at w
    rw [oz_bf w, if_neg (fun z => Bool.noConfusion z.1)]
    exact c_r34 V C X hb
  | true =>
    rw [c] at w
    rw [oz_bt w, k_0 C.2.2.1, pl_5]
    by_cases c2 : a 4 < 5
    · rw [if_pos (show true = true ∧ a 4 < 5 from ⟨rfl, c2⟩), oz_ile_f c2 (by omega)]
      obtain ⟨u, k1, k2, k3, k4, k5, k6⟩ := c_readBasket X (q := b + 6) (n := a 4) (by omega) c2 (k_0 C.2.2.1)
      rw [oz_ndW_t c] at k2 k3 k4 k5 k6
      rw [k1, Option.bind_some]
      refine ⟨_, rfl, k2, fun p' hp' => ?_, ⟨fun p1 hp1 => k3.2.2.2.2.2.2.2.2.2.1 p1 (by omega) (by omega), k3.2.2.2.2.2.2.2.2.2.2.2.2⟩⟩
      have b1 := oz_nmV_le (T := T) (len := len) (lo := 3) (h := 24) (st := oz_ndW T len 47 (oz_toW T len 33 (Sum.inr p))) (by omega) (by omega) (fun p2 h => oz_ndW_le h)
      have b2 := oz_nmV_le (T := T) (len := len) (lo := 1) (h := 20) (st := oz_ndW T len 48 (oz_bs1 T len (oz_toW T len 33 (Sum.inr p)))) (by omega) (by omega) (fun p2 h => oz_ndW_le h)
      have b3 := oz_nmV_le (T := T) (len := len) (lo := 1) (h := 6) (st := oz_ndW T len 50 (oz_bsw T len (oz_toW T len 33 (Sum.inr p))).2.2) (by omega) (by omega) (fun p2 h => oz_ndW_le h)
      have b4 := oz_nmV_le (T := T) (len := len) (lo := 0) (h := 99) (st := oz_ndW T len 51 (oz_bs3 T len (oz_toW T len 33 (Sum.inr p)))) (by omega) (by omega) (fun p2 h => oz_ndW_le h)
      exact ⟨oz_C_kdu V C hb c2 k6 k3, oz_V_kdu V c2 k5 k6 b1 b2 b3 b4.2 k4⟩
    · rw [oz_ile_t (by omega) (by omega), if_neg (fun z : true = true ∧ a 4 < 5 => c2 z.2)]
      exact c_r34 V C X hb
theorem oz_bdl_le {st : Nat ⊕ Nat} (hl : ∀ p, st = Sum.inr p → p ≤ len) : (oz_bdl T len st).1.1 ≤ 2 ∧ (oz_bdl T len st).1.2.1 ≤ 9 ∧ 1 ≤ (oz_bdl T len st).1.2.2.1 ∧ (oz_bdl T len st).1.2.2.1 ≤ 99 ∧ (oz_bdl T len st).1.2.2.2 ≤ 9 := by
  have h1 := oz_srt_le (T := T) (len := len) (st := st)
  have b2 := oz_nmV_le (T := T) (len := len) (lo := 0) (h := 9) (st := oz_ndW T len 41 (oz_srt T len st).2) (by omega) (by omega) (fun p2 h => oz_ndW_le h)
  have b3 := oz_nmV_le (T := T) (len := len) (lo := 1) (h := 99) (st := oz_ndW T len 42 (oz_nmS T len 0 (nI 9) (oz_ndW T len 41 (oz_srt T len st).2))) (by omega) (by omega) (fun p2 h => oz_ndW_le h)
  unfold oz_bdl
  split
  · rename_i c
    have b4 := oz_nmV_le (T := T) (len := len) (lo := 0) (h := 9) (st := oz_toW T len 43 (oz_nmS T len 1 (nI 99) (oz_ndW T len 42 (oz_nmS T len 0 (nI 9) (oz_ndW T len 41 (oz_srt T len st).2))))) (by omega) (by omega) (fun p2 h => by
      cases hz : oz_nmS T len 1 (nI 99) (oz_ndW T len 42 (oz_nmS T len 0 (nI 9) (oz_ndW T len 41 (oz_srt T len st).2))) with
      | inl q => rw [hz] at h; exact nomatch h
      | inr q =>
        rw [hz] at h c
        rw [oz_toW_t c] at h
        cases h
        exact oz_wd_le c)
    exact ⟨h1, b2.2, b3.1, b3.2, b4.2⟩
  · exact ⟨h1, b2.2, b3.1, b3.2, Nat.zero_le _⟩
theorem c_readLine {p : Nat} (V : oz_V a) (C : oz_C s b a) (X : oz_CX s T len (Sum.inr p)) (hb : 10 ≤ b) : oz_LC T len b s (f_HoltText_readLine b s) (oz_hol T len a p) := by
  have hv := oz_V6 V
  rw [oz_r32]
  unfold oz_hol
  have w := c_isWord X 32 (by decide +kernel)
  have i : oz_isW T len 32 (Sum.inr p) = oz_wd T len 32 p := rfl
  rw [i] at w
  cases c : oz_wd T len 32 p with
  | false =>
    rw [c] at w
    rw [oz_bf w, if_neg (fun z => Bool.noConfusion z.1)]
    exact c_r33 V C X hb
  | true =>
    rw [c] at w
    rw [oz_bt w, b_0 C.2.1, pl_6]
    by_cases c2 : a 3 < 6
    · rw [if_pos (show true = true ∧ a 3 < 6 from ⟨rfl, c2⟩), oz_ile_f c2 (by omega)]
      obtain ⟨u, k1, k2, k3⟩ := c_readBed X (b := b + 1) (n := a 3) (by omega) c2 (b_0 C.2.1)
      rw [oz_ndW_t c] at k1 k2
      rw [k1, Option.bind_some]
      refine ⟨_, rfl, ?_, fun p' hp' => ?_, ?_⟩
      · unfold oz_bdw
        exact oz_CX_w (oz_CX_w (oz_CX_w (oz_CX_w (oz_CX_w k2 (by omega)) (by omega)) (by omega)) (by omega)) (by omega)
      · have hl : ∀ p2, oz_toW T len 32 (Sum.inr p) = Sum.inr p2 → p2 ≤ len := fun p2 h => by
          rw [oz_toW_t c] at h
          cases h
          exact oz_wd_le c
        obtain ⟨b1, b2, b3, b4, b5⟩ := oz_bdl_le (T := T) hl
        exact ⟨oz_C_bdu V C hb c2 k3, oz_V_bdu V c2 b1 b2 b3 b4 b5⟩
      · unfold oz_bdw
        exact oz_fr_tr (oz_fr_mono k3 (fun p hp => Or.inl hp)) (oz_fr_tr (oz_fr_w (by omega)) (oz_fr_tr (oz_fr_w (by omega)) (oz_fr_tr (oz_fr_w (by omega)) (oz_fr_tr (oz_fr_w (by omega)) (oz_fr_w (by omega))))))
    · rw [oz_ile_t (by omega) (by omega), if_neg (fun z : true = true ∧ a 3 < 6 => c2 z.2)]
      exact c_r33 V C X hb
end
