/-! ===== a holt's text ===== -/
def oz_hrd (T : Nat → Nat) (len : Nat) : Nat → Nat → (Nat → Nat) → (Nat ⊕ Nat) × (Nat → Nat)
  | 0, p, a => (Sum.inl p, a)
  | k + 1, p, a => match (oz_hol T len a p).1 with
    | Sum.inl q => (Sum.inl q, a)
    | Sum.inr p' => if len ≤ p' then (Sum.inr p', (oz_hol T len a p).2) else if T p' = 59 then oz_hrd T len k (oz_sb T len (p' + 1)) (oz_hol T len a p).2 else (Sum.inl p', a)
def oz_hrA (T : Nat → Nat) (len : Nat) (a : Nat → Nat) : (Nat ⊕ Nat) × (Nat → Nat) := if len ≤ oz_sb T len 0 then (Sum.inr (oz_sb T len 0), a) else oz_hrd T len 14 (oz_sb T len 0) a
theorem oz_hrd_l {T : Nat → Nat} {len k p q : Nat} {a : Nat → Nat} (h : (oz_hol T len a p).1 = Sum.inl q) : oz_hrd T len (k + 1) p a = (Sum.inl q, a) := by
  unfold oz_hrd
  rw [h]
theorem oz_hrd_r {T : Nat → Nat} {len k p p' : Nat} {a : Nat → Nat} (h : (oz_hol T len a p).1 = Sum.inr p') : oz_hrd T len (k + 1) p a = if len ≤ p' then (Sum.inr p', (oz_hol T len a p).2) else if T p' = 59 then oz_hrd T len k (oz_sb T len (p' + 1)) (oz_hol T len a p).2 else (Sum.inl p', a) := by
  conv => lhs; unfold oz_hrd
  rw [h]
theorem oz_hol_0 {T : Nat → Nat} {len p : Nat} {a : Nat → Nat} : (oz_hol T len a p).2 0 = a 0 := by
  unfold oz_hol oz_tls
  split
  · show oz_bdu a _ 0 = a 0
    exact oz_bdu_o (by omega) (by omega)
  · split
    · show oz_kdu _ _ _ _ 0 = _
      unfold oz_kdu
      rw [oz_up_n (by omega), oz_up_n (by omega), oz_up_n (by omega), oz_up_n (by omega), oz_up_n (by omega), oz_up_n (by omega), oz_wrR_lo (by omega)]
    · split
      · show oz_hdu a _ 0 = a 0
        exact oz_hdu_o (by omega) (by omega)
      · split
        · show oz_odu a _ 0 = a 0
          exact oz_odu_o (by omega) (by omega)
        · split
          · show oz_up a (37 + (oz_rdl T len (oz_toW T len 36 (Sum.inr p))).1.1 - 1) _ 0 = a 0
            exact oz_up_n (by omega)
          · split
            · rfl
            · split
              · rfl
              · split
                · rfl
                · split
                  · rfl
                  · rfl
theorem oz_hrd_0 {T : Nat → Nat} {len : Nat} : ∀ k p a, (oz_hrd T len k p a).2 0 = a 0 := by
  intro k
  induction k with
  | zero => intro p a; rfl
  | succ k ih =>
    intro p a
    cases h : (oz_hol T len a p).1 with
    | inl q => rw [oz_hrd_l h]
    | inr p' =>
      rw [oz_hrd_r h]
      split
      · exact oz_hol_0
      · split
        · rw [ih]; exact oz_hol_0
        · rfl
theorem oz_hrA_0 {T : Nat → Nat} {len : Nat} {a : Nat → Nat} : (oz_hrA T len a).2 0 = a 0 := by
  unfold oz_hrA
  split
  · rfl
  · exact oz_hrd_0 _ _ _
theorem oz_wps_b {T : Nat → Nat} {len : Nat} : ∀ k R c st, c + 2 * (k + 1) ≤ 6 → (∀ p, st = Sum.inr p → p ≤ len) → (∀ j, j < c → 1 ≤ R j ∧ R j ≤ 4) → (∀ j, j < (oz_wps T len (k + 1) R c st).2.1 → 1 ≤ (oz_wps T len (k + 1) R c st).1 j ∧ (oz_wps T len (k + 1) R c st).1 j ≤ 4) ∧ 2 ≤ (oz_wps T len (k + 1) R c st).2.1 ∧ (oz_wps T len (k + 1) R c st).2.1 ≤ 6 := by
  intro k
  induction k with
  | zero =>
    intro R c st hc hl hR
    have b1 := oz_nmV_le (T := T) (len := len) (lo := 1) (h := 4) (st := st) (by omega) (by omega) hl
    have b2 := oz_nmV_le (T := T) (len := len) (lo := 1) (h := 4) (st := oz_nmS T len 1 (nI 4) st) (by omega) (by omega) (fun p2 h => oz_nmS_le hl h)
    have e : oz_wps T len (0 + 1) R c st = (oz_up (oz_up R c (oz_nmV T len 1 (nI 4) st)) (c + 1) (oz_nmV T len 1 (nI 4) (oz_nmS T len 1 (nI 4) st)), c + 2, oz_nmS T len 1 (nI 4) (oz_nmS T len 1 (nI 4) st)) := by
      show (if oz_isN T len (oz_nmS T len 1 (nI 4) (oz_nmS T len 1 (nI 4) st)) = true then _ else _) = _
      split <;> rfl
    rw [e]
    exact ⟨oz_upR hR b1 b2, by show 2 ≤ c + 2; omega, by show c + 2 ≤ 6; omega⟩
  | succ k ih =>
    intro R c st hc hl hR
    have b1 := oz_nmV_le (T := T) (len := len) (lo := 1) (h := 4) (st := st) (by omega) (by omega) hl
    have b2 := oz_nmV_le (T := T) (len := len) (lo := 1) (h := 4) (st := oz_nmS T len 1 (nI 4) st) (by omega) (by omega) (fun p2 h => oz_nmS_le hl h)
    by_cases cN : oz_isN T len (oz_nmS T len 1 (nI 4) (oz_nmS T len 1 (nI 4) st)) = true
    · have e : oz_wps T len (k + 1 + 1) R c st = oz_wps T len (k + 1) (oz_up (oz_up R c (oz_nmV T len 1 (nI 4) st)) (c + 1) (oz_nmV T len 1 (nI 4) (oz_nmS T len 1 (nI 4) st))) (c + 2) (oz_nmS T len 1 (nI 4) (oz_nmS T len 1 (nI 4) st)) := if_pos cN
      rw [e]
      exact ih _ _ _ (by omega) (fun p2 h => oz_nmS_le (fun p3 h3 => oz_nmS_le hl h3) h) (oz_upR hR b1 b2)
    · have e : oz_wps T len (k + 1 + 1) R c st = (oz_up (oz_up R c (oz_nmV T len 1 (nI 4) st)) (c + 1) (oz_nmV T len 1 (nI 4) (oz_nmS T len 1 (nI 4) st)), c + 2, oz_nmS T len 1 (nI 4) (oz_nmS T len 1 (nI 4) st)) := if_neg cN
      rw [e]
      exact ⟨oz_upR hR b1 b2, by show 2 ≤ c + 2; omega, by show c + 2 ≤ 6; omega⟩
theorem oz_hol_V {T : Nat → Nat} {len : Nat} {a : Nat → Nat} {p p' : Nat} (V : oz_V a) (hp : p ≤ len) (h : (oz_hol T len a p).1 = Sum.inr p') : oz_V (oz_hol T len a p).2 := by
  have tl : ∀ t, ∀ p2, oz_toW T len t (Sum.inr p) = Sum.inr p2 → p2 ≤ len := fun t p2 h => by
    by_cases c : oz_wd T len t p = true
    · rw [oz_toW_t c] at h
      cases h
      exact oz_wd_le c
    · rw [oz_toW_f (by cases hz : oz_isW T len t (Sum.inr p) with
        | false => rfl
        | true => exact absurd hz c)] at h
      cases h
      exact hp
  revert h
  unfold oz_hol
  by_cases c1 : oz_wd T len 32 p = true ∧ a 3 < 6
  · rw [if_pos c1]
    intro _
    obtain ⟨b1, b2, b3, b4, b5⟩ := oz_bdl_le (T := T) (tl 32)
    exact oz_V_bdu V c1.2 b1 b2 b3 b4 b5
  rw [if_neg c1]
  by_cases c2 : oz_wd T len 33 p = true ∧ a 4 < 5
  · rw [if_pos c2]
    intro h
    have b1 := oz_nmV_le (T := T) (len := len) (lo := 3) (h := 24) (st := oz_ndW T len 47 (oz_toW T len 33 (Sum.inr p))) (by omega) (by omega) (fun p2 h => oz_ndW_le h)
    have b2 := oz_nmV_le (T := T) (len := len) (lo := 1) (h := 20) (st := oz_ndW T len 48 (oz_bs1 T len (oz_toW T len 33 (Sum.inr p)))) (by omega) (by omega) (fun p2 h => oz_ndW_le h)
    have b3 := oz_nmV_le (T := T) (len := len) (lo := 1) (h := 6) (st := oz_ndW T len 50 (oz_bsw T len (oz_toW T len 33 (Sum.inr p))).2.2) (by omega) (by omega) (fun p2 h => oz_ndW_le h)
    have b4 := oz_nmV_le (T := T) (len := len) (lo := 0) (h := 99) (st := oz_ndW T len 51 (oz_bs3 T len (oz_toW T len 33 (Sum.inr p)))) (by omega) (by omega) (fun p2 h => oz_ndW_le h)
    have pr := oz_wps_b (T := T) (len := len) 2 (fun _ => 0) 0 (oz_ndW T len 49 (oz_bs2 T len (oz_toW T len 33 (Sum.inr p)))) (by omega) (fun p2 h => oz_ndW_le h) (fun j hj => absurd hj (by omega))
    exact oz_V_kdu V c2.2 pr.2.1 pr.2.2 b1 b2 b3 b4.2 pr.1
  rw [if_neg c2]
  by_cases c3 : oz_wd T len 34 p = true ∧ a 5 < 5
  · rw [if_pos c3]
    intro _
    have b1 := oz_nmV_le (T := T) (len := len) (lo := 1) (h := 9) (st := oz_ndW T len 52 (oz_toW T len 34 (Sum.inr p))) (by omega) (by omega) (fun p2 h => oz_ndW_le h)
    have b2 := oz_nmV_le (T := T) (len := len) (lo := 0) (h := 99) (st := oz_ndW T len 53 (oz_nmS T len 1 (nI 9) (oz_ndW T len 52 (oz_toW T len 34 (Sum.inr p))))) (by omega) (by omega) (fun p2 h => oz_ndW_le h)
    exact oz_V_hdu V c3.2 b1.1 b1.2 b2.2
  rw [if_neg c3]
  by_cases c4 : oz_wd T len 35 p = true ∧ a 6 < 6
  · rw [if_pos c4]
    intro h
    have hv := oz_V6 V
    obtain ⟨p1, hp1⟩ := oz_nmS_r h
    have h1 := oz_odn (T := T) (len := len) (by omega) (tl 35) hp1
    have b2 := oz_nmV_le (T := T) (len := len) (lo := 1) (h := 9) (st := oz_nmS T len 0 (nI (a 4) - nI 1) (oz_toW T len 35 (Sum.inr p))) (by omega) (by omega) (fun p2 h => oz_nmS_le (tl 35) h)
    exact oz_V_odu V c4.2 h1 b2.1 b2.2
  rw [if_neg c4]
  unfold oz_tls
  by_cases c5 : oz_wd T len 36 p = true
  · rw [if_pos c5]
    intro h
    have b1 := oz_nmV_le (T := T) (len := len) (lo := 1) (h := 6) (st := oz_toW T len 36 (Sum.inr p)) (by omega) (by omega) (tl 36)
    have b2 := oz_nmV_le (T := T) (len := len) (lo := 0) (h := 999) (st := oz_nmS T len 1 (nI 6) (oz_toW T len 36 (Sum.inr p))) (by omega) (by omega) (fun p2 h => oz_nmS_le (tl 36) h)
    exact oz_V_sto V b1.1 b1.2 (by show oz_nmV T len 0 (nI 999) _ ≤ 9999; omega)
  rw [if_neg c5]
  by_cases c6 : oz_wd T len 37 p = true
  · rw [if_pos c6]
    intro h
    have b2 := oz_nmV_le (T := T) (len := len) (lo := 0) (h := 100) (st := oz_toW T len 37 (Sum.inr p)) (by omega) (by omega) (tl 37)
    exact oz_V_up V (Or.inr (Or.inl ⟨rfl, b2.2⟩))
  rw [if_neg c6]
  by_cases c7 : oz_wd T len 38 p = true
  · rw [if_pos c7]
    intro h
    have b2 := oz_nmV_le (T := T) (len := len) (lo := 0) (h := 999) (st := oz_toW T len 38 (Sum.inr p)) (by omega) (by omega) (tl 38)
    exact oz_V_up V (Or.inr (Or.inr (Or.inl ⟨rfl, by omega⟩)))
  rw [if_neg c7]
  by_cases c8 : oz_wd T len 39 p = true
  · rw [if_pos c8]
    intro h
    have b2 := oz_nmV_le (T := T) (len := len) (lo := 0) (h := 999) (st := oz_toW T len 39 (Sum.inr p)) (by omega) (by omega) (tl 39)
    exact oz_V_up V (Or.inr (Or.inr (Or.inr (Or.inl ⟨rfl, by omega⟩))))
  rw [if_neg c8]
  by_cases c9 : oz_wd T len 40 p = true
  · rw [if_pos c9]
    intro h
    exact oz_V_up V (Or.inr (Or.inr (Or.inr (Or.inr (Or.inl ⟨rfl, Nat.le_refl _⟩)))))
  rw [if_neg c9]
  intro h
  exact nomatch h
def oz_lcm (T : Nat → Nat) (len l m : Nat) : (Nat ⊕ Nat) → Bool × (Nat ⊕ Nat)
  | Sum.inl q => (false, Sum.inl q)
  | Sum.inr p => if len ≤ p then (false, Sum.inr p) else if l = 0 then (true, Sum.inr p) else if T p = 59 then (if l < m then (true, Sum.inr (oz_sb T len (p + 1))) else (false, Sum.inl (oz_sb T len (p + 1)))) else (false, Sum.inl p)
section
variable {s : lf_S} {T : Nat → Nat} {len : Nat} {a : Nat → Nat}
theorem c_lineComes {st : Nat ⊕ Nat} (X : oz_CX s T len st) {l m : Nat} (hl : l < 100) (hm : m < 100) : ∃ u, f_Tape_lineComes (nI l) (nI m) s = some ((oz_lcm T len l m st).1, u) ∧ oz_CX u T len (oz_lcm T len l m st).2 ∧ oz_fr (fun p => p = 1) s u := by
  have nf := c_failed X
  unfold f_Tape_lineComes
  cases st with
  | inl q =>
    rw [oz_bt nf]
    exact ⟨s, rfl, X, oz_fr_rf⟩
  | inr p =>
    rw [oz_bf nf, X.1, X.2.2.2.2.1]
    have l400 := X.2.1
    have hp := X.2.2.2.2.2.1
    show ∃ u, _ = some ((if len ≤ p then _ else _ : Bool × (Nat ⊕ Nat)).1, u) ∧ oz_CX u T len (if len ≤ p then _ else _ : Bool × (Nat ⊕ Nat)).2 ∧ _
    by_cases c : len ≤ p
    · rw [if_pos c, oz_ilt_f c (by omega)]
      exact ⟨s, rfl, X, oz_fr_rf⟩
    · rw [if_neg c, oz_ilt_t (by omega) (by omega)]
      by_cases c0 : l = 0
      · rw [if_pos c0, if_pos (show nI l = (0 : Int32) by rw [c0]; rfl)]
        exact ⟨s, rfl, X, oz_fr_rf⟩
      · rw [if_neg c0, if_neg (show ¬ (nI l = (0 : Int32)) by rw [pl_0, oz_eq (by omega) (by omega)]; exact c0)]
        obtain ⟨u, k1, k2, k3⟩ := c_takeSign X (c := 59) (by omega)
        have ei : oz_isG T len 59 (Sum.inr p) = decide (p < len ∧ T p = 59) := rfl
        have et : oz_toG T len 59 (Sum.inr p) = if p < len ∧ T p = 59 then Sum.inr (oz_sb T len (p + 1)) else Sum.inr p := rfl
        rw [pl_59]
        rw [ei] at k1
        rw [et] at k2
        by_cases c2 : T p = 59
        · rw [decide_eq_true (show p < len ∧ T p = 59 from ⟨by omega, c2⟩)] at k1
          rw [if_pos (show p < len ∧ T p = 59 from ⟨by omega, c2⟩)] at k2
          have nf2 := c_failed k2
          rw [oz_tkt k1, if_pos c2]
          by_cases c3 : l < m
          · rw [if_pos c3, oz_ilt_t c3 (by omega), oz_bf nf2]
            exact ⟨u, rfl, k2, k3⟩
          · rw [if_neg c3, oz_ilt_f (by omega) (by omega)]
            obtain ⟨v, f1, f2, f3⟩ := c_fail k2
            have nf3 := c_failed f2
            try dsimp only
            rw [f1, Option.bind_some, oz_bt nf3]
            exact ⟨v, rfl, f2, oz_fr_tr k3 f3⟩
        · rw [decide_eq_false (show ¬ (p < len ∧ T p = 59) from fun z => c2 z.2)] at k1
          rw [if_neg (show ¬ (p < len ∧ T p = 59) from fun z => c2 z.2)] at k2
          rw [oz_tkf k1, if_neg c2]
          obtain ⟨v, f1, f2, f3⟩ := c_fail k2
          have nf3 := c_failed f2
          try dsimp only
          rw [f1, Option.bind_some, oz_bt nf3]
          exact ⟨v, rfl, f2, oz_fr_tr k3 f3⟩
theorem oz_LC_tr {b : Nat} {t : lf_S} {f : Option lf_S} {x : (Nat ⊕ Nat) × (Nat → Nat)} (h : oz_fr (fun q => q = 1 ∨ (b ≤ q ∧ q < b + 24)) s t) (k : oz_LC T len b t f x) : oz_LC T len b s f x := by
  obtain ⟨u, k1, k2, k3, k4⟩ := k
  exact ⟨u, k1, k2, k3, oz_fr_tr h k4⟩
theorem c_holtLoop {b : Nat} (hb : 10 ≤ b) : ∀ k l p (a : Nat → Nat) (s : lf_S) fuel, l + k = 14 → 1 ≤ k → k + 1 < fuel → oz_V a → oz_C s b a → oz_CX s T len (Sum.inr p) → oz_LC T len b s ((f_HoltText_readLine b s).bind (fun p4 => lf_lt (nI l + (1 : Int32)) (fun y5 => f_HoltText_read_6 b fuel y5 p4))) (oz_hrd T len k p a) := by
  intro k
  induction k with
  | zero => intro l p a s fuel h1 h2; omega
  | succ k ih =>
    intro l p a s fuel h1 h2 hf V C X
    obtain ⟨u, k1, k2, k3, k4⟩ := c_readLine V C X hb
    obtain ⟨fuel, rfl⟩ : ∃ m, fuel = m + 1 := ⟨fuel - 1, by omega⟩
    rw [k1, Option.bind_some]
    simp only [lf_lt, pl_1, nI_add]
    refine oz_LC_tr k4 ?_
    obtain ⟨v, g1, g2, g3⟩ := c_lineComes k2 (l := l + 1) (m := 14) (by omega) (by omega)
    have fv : oz_fr (fun q => q = 1 ∨ (b ≤ q ∧ q < b + 24)) u v := oz_fr_mono g3 (fun p hp => Or.inl hp)
    rw [f_HoltText_read_6, pl_14, oz_ilt_f (by omega) (by omega)]
    cases hx : (oz_hol T len a p).1 with
    | inl q =>
      rw [hx] at g1 g2
      rw [oz_hrd_l hx, oz_tkf g1]
      exact ⟨v, rfl, g2, fun p' hp' => (nomatch hp'), fv⟩
    | inr p' =>
      obtain ⟨C1, V1⟩ := k3 p' hx
      have Cv : oz_C v b (oz_hol T len a p).2 := oz_C_fr V1 C1 (fun q h1 h2 => g3.1 q (by omega))
      rw [hx] at g1 g2
      rw [oz_hrd_r hx]
      have e : oz_lcm T len (l + 1) 14 (Sum.inr p') = if len ≤ p' then (false, Sum.inr p') else if l + 1 = 0 then (true, Sum.inr p') else if T p' = 59 then (if l + 1 < 14 then (true, Sum.inr (oz_sb T len (p' + 1))) else (false, Sum.inl (oz_sb T len (p' + 1)))) else (false, Sum.inl p') := rfl
      rw [e] at g1 g2
      by_cases c : len ≤ p'
      · rw [if_pos c] at g1 g2
        rw [if_pos c, oz_tkf g1]
        exact ⟨v, rfl, g2, fun _ _ => ⟨Cv, V1⟩, fv⟩
      · rw [if_neg c, if_neg (by omega)] at g1 g2
        rw [if_neg c]
        by_cases c2 : T p' = 59
        · rw [if_pos c2] at g1 g2
          rw [if_pos c2]
          by_cases c3 : l + 1 < 14
          · rw [if_pos c3] at g1 g2
            rw [oz_tkt g1]
            exact oz_LC_tr fv (ih (l + 1) _ _ v fuel (by omega) (by omega) (by omega) V1 Cv g2)
          · rw [if_neg c3] at g1 g2
            rw [oz_tkf g1]
            obtain rfl : k = 0 := by omega
            exact ⟨v, rfl, g2, fun p' hp' => (nomatch hp'), fv⟩
        · rw [if_neg c2] at g1 g2
          rw [if_neg c2, oz_tkf g1]
          exact ⟨v, rfl, g2, fun p' hp' => (nomatch hp'), fv⟩
theorem c_holtRead {b : Nat} (hb : 10 ≤ b) (V : oz_V a) (C : oz_C s b a) (h1 : s.1 1 1 = nI len) (h2 : len ≤ 400) (h3 : ∀ i, i < len → T i ≤ 255 ∧ s.1 2 i = nI (T i)) : ∃ u, f_HoltText_read b s = some ((oz_hrA T len a).1.isRight, u) ∧ oz_CX u T len (oz_hrA T len a).1 ∧ (∀ p', (oz_hrA T len a).1 = Sum.inr p' → oz_C u b (oz_hrA T len a).2 ∧ oz_V (oz_hrA T len a).2) ∧ oz_fr (fun q => q = 1 ∨ (b ≤ q ∧ q < b + 24)) s u := by
  have key : ∃ u, ((f_Tape_start s).bind (fun p1 => lf_lt (0 : Int32) (fun y2 => f_HoltText_read_6 b 5000 y2 p1))) = some u ∧ oz_CX u T len (oz_hrA T len a).1 ∧ (∀ p', (oz_hrA T len a).1 = Sum.inr p' → oz_C u b (oz_hrA T len a).2 ∧ oz_V (oz_hrA T len a).2) ∧ oz_fr (fun q => q = 1 ∨ (b ≤ q ∧ q < b + 24)) s u := by
    have g := c_moveTo (s := lf_w s 1 2 oz_N) (T := T) (len := len) (by rw [oz_w_n (by omega)]; exact h1) h2 (fun i hi => by rw [oz_w_o (by omega)]; exact h3 i hi) (p := 0) (by omega)
    have hs := oz_sb_le (T := T) (len := len) (p := 0) (by omega)
    obtain ⟨t, ht⟩ : ∃ t, t = lf_w (lf_w s 1 2 oz_N) 1 3 (nI (oz_sb T len 0)) := ⟨_, rfl⟩
    have ft : oz_fr (fun q => q = 1 ∨ (b ≤ q ∧ q < b + 24)) s t := by
      rw [ht]
      exact oz_fr_tr (oz_fr_w (by omega)) (oz_fr_w (by omega))
    have X : oz_CX t T len (Sum.inr (oz_sb T len 0)) := by
      rw [ht]
      refine ⟨by rw [oz_w_n (by omega), oz_w_n (by omega)]; exact h1, h2, fun i hi => by rw [oz_w_o (by omega), oz_w_o (by omega)]; exact h3 i hi, ?_⟩
      show (lf_w (lf_w s 1 2 oz_N) 1 3 _).1 1 2 = oz_N ∧ (lf_w (lf_w s 1 2 oz_N) 1 3 _).1 1 3 = nI _ ∧ _ ≤ len ∧ _
      exact ⟨(oz_w_n (by omega)).trans oz_w_s, oz_w_s, hs.2, oz_sb_nb⟩
    have Ct : oz_C t b a := oz_C_fr V C (fun p h1 h2 => by rw [ht, oz_w_o (by omega), oz_w_o (by omega)])
    have es : f_Tape_start s = some t := by
      unfold f_Tape_start
      simp only [lf_lt]
      rw [pl_1, oz_neg1, pl_0, g, ht]
      rfl
    rw [es, Option.bind_some]
    simp only [lf_lt]
    obtain ⟨v, g1, g2, g3⟩ := c_lineComes X (l := 0) (m := 14) (by omega) (by omega)
    rw [f_HoltText_read_6, pl_14, pl_0, oz_ilt_f (by omega) (by omega)]
    unfold oz_hrA
    have e : oz_lcm T len 0 14 (Sum.inr (oz_sb T len 0)) = if len ≤ oz_sb T len 0 then (false, Sum.inr (oz_sb T len 0)) else (true, Sum.inr (oz_sb T len 0)) := rfl
    rw [e] at g1 g2
    have fv : oz_fr (fun q => q = 1 ∨ (b ≤ q ∧ q < b + 24)) s v := oz_fr_tr ft (oz_fr_mono g3 (fun p hp => Or.inl hp))
    have Cv : oz_C v b a := oz_C_fr V Ct (fun p h1 h2 => g3.1 p (by omega))
    by_cases c : len ≤ oz_sb T len 0
    · rw [if_pos c] at g1 g2
      rw [if_pos c, oz_tkf g1]
      exact ⟨v, rfl, g2, fun _ _ => ⟨Cv, V⟩, fv⟩
    · rw [if_neg c] at g1 g2
      rw [if_neg c, oz_tkt g1]
      exact oz_LC_tr fv (c_holtLoop hb 14 0 _ a v 4999 (by omega) (by omega) (by omega) V Cv g2)
  obtain ⟨u, k1, k2, k3, k4⟩ := key
  have nf := c_failed k2
  refine ⟨u, ?_, k2, k3, k4⟩
  unfold f_HoltText_read
  cases e1 : f_Tape_start s with
  | none => rw [e1] at k1; exact nomatch k1
  | some t =>
    rw [e1, Option.bind_some] at k1
    simp only [lf_lt] at k1
    rw [Option.bind_some]
    simp only [lf_lt]
    rw [k1, Option.bind_some, nf, Option.bind_some]
    cases (oz_hrA T len a).1 <;> rfl
def oz_hoR (T : Nat → Nat) (len : Nat) (a : Nat → Nat) : Nat ⊕ Int32 := match (oz_hrA T len a).1 with
  | Sum.inl _ => Sum.inl 0
  | Sum.inr _ => if a 0 < 12 then Sum.inr (nI (a 0 + 1)) else Sum.inl 1
def oz_hoA (T : Nat → Nat) (len : Nat) (a : Nat → Nat) : Nat → Nat := match (oz_hrA T len a).1 with
  | Sum.inl _ => a
  | Sum.inr _ => if a 0 < 12 then oz_up (oz_hrA T len a).2 0 (a 0 + 1) else a
def oz_ft : Nat ⊕ Nat → Int32
  | Sum.inl q => nI q
  | Sum.inr _ => oz_N
theorem oz_CX_ft {st : Nat ⊕ Nat} (X : oz_CX s T len st) : s.1 1 2 = oz_ft st := by
  cases st with
  | inl q => exact X.2.2.2.1
  | inr p => exact X.2.2.2.1
theorem oz_MX_ft {st : Nat ⊕ Nat} (X : oz_MX s T len st) : s.1 389 12 = oz_ft st := by
  cases st with
  | inl q => exact X.2.2.2.2.1
  | inr p => exact X.2.2.2.2.1
theorem c_holt (V : oz_V a) (C : oz_C s 10 a) (h1 : s.1 1 1 = nI len) (h2 : len ≤ 400) (h3 : ∀ i, i < len → T i ≤ 255 ∧ s.1 2 i = nI (T i)) : ∃ t, f_Main_holt s = some (oz_hoR T len a, t) ∧ oz_C t 10 (oz_hoA T len a) ∧ oz_V (oz_hoA T len a) ∧ t.1 1 1 = nI 0 ∧ t.1 1 2 = oz_ft (oz_hrA T len a).1 ∧ (t.1 0 10 = if (oz_hoR T len a).isRight = true then nI 0 else s.1 0 10) ∧ oz_fr (fun p => p = 0 ∨ p = 1 ∨ (10 ≤ p ∧ p < 34) ∨ (40 ≤ p ∧ p < 64)) s t ∧ ∀ j, j ≠ 10 → t.1 0 j = s.1 0 j := by
  obtain ⟨t1, k1, k2, k3⟩ := c_copy (s := s) (q := 40) (r := 10) (by omega) (oz_h01 V C)
  have C1 := k3 a V C
  obtain ⟨t2, l1, l2, l3, l4⟩ := c_holtRead (s := t1) (T := T) (len := len) (b := 40) (by omega) V C1 (by rw [k2.1 1 (by omega)]; exact h1) h2 (fun i hi => by rw [k2.1 2 (by omega)]; exact h3 i hi)
  have C2 : oz_C (lf_w t2 1 1 (nI 0)) 10 a := oz_C_fr V C (fun p p1 p2 => by rw [oz_w_o (by omega), l4.1 p (by omega), k2.1 p (by omega)])
  have f2 : oz_fr (fun p => p = 0 ∨ p = 1 ∨ (10 ≤ p ∧ p < 34) ∨ (40 ≤ p ∧ p < 64)) s (lf_w t2 1 1 (nI 0)) := oz_fr_tr (oz_fr_mono k2 (by omega)) (oz_fr_tr (oz_fr_mono l4 (by omega)) (oz_fr_w (by omega)))
  have hft : (lf_w t2 1 1 (nI 0)).1 1 2 = oz_ft (oz_hrA T len a).1 := by rw [oz_w_n (by omega)]; exact oz_CX_ft l2
  unfold f_Main_holt
  rw [k1, Option.bind_some, l1, Option.bind_some]
  simp only [lf_lt]
  rw [pl_0, pl_1, pl_12]
  unfold oz_hoR oz_hoA
  have hz : ∀ j, (lf_w t2 1 1 (nI 0)).1 0 j = s.1 0 j := fun j => by rw [oz_w_o (by omega), l4.1 0 (by omega), k2.1 0 (by omega)]
  cases hx : (oz_hrA T len a).1 with
  | inl q =>
    rw [hx] at hft
    rw [if_neg (show ¬ ((Sum.inl q : Nat ⊕ Nat).isRight = true) from Bool.noConfusion)]
    exact ⟨_, rfl, C2, V, oz_w_s, hft, hz 10, f2, fun j _ => hz j⟩
  | inr p =>
    obtain ⟨Cs, Vs⟩ := l3 p hx
    have h0 := C2.1.1
    have hv := oz_V6 V
    rw [hx] at hft
    rw [if_pos (show (Sum.inr p : Nat ⊕ Nat).isRight = true from rfl), h0]
    by_cases c : a 0 < 12
    · have Cs' : oz_C (lf_w t2 1 1 (nI 0)) 40 (oz_hrA T len a).2 := oz_C_fr Vs Cs (fun p p1 p2 => oz_w_o (by omega))
      obtain ⟨t3, m1, m2, m3⟩ := c_copy (s := lf_w t2 1 1 (nI 0)) (q := 10) (r := 40) (by omega) (oz_h01 Vs Cs')
      have C3 := m3 _ Vs Cs'
      have e6 : t3.1 10 6 = nI (a 0) := by rw [C3.1.1, oz_hrA_0]
      rw [oz_ilt_t c (by omega), m1, Option.bind_some]
      simp only [if_pos c]
      rw [e6, nI_add]
      have C4 := oz_C_num (k := 6) (i := 0) (v := a 0 + 1) Vs C3 (by omega)
      have V4 : oz_V (oz_up (oz_hrA T len a).2 0 (a 0 + 1)) := oz_V_up Vs (Or.inl ⟨rfl, by omega⟩)
      refine ⟨lf_w (lf_w t3 10 6 (nI (a 0 + 1))) 0 10 (nI 0), ?_, oz_C_fr V4 C4 (fun p p1 p2 => oz_w_o (by omega)), V4, ?_, ?_, oz_w_s, oz_fr_tr f2 (oz_fr_tr (oz_fr_mono m2 (by omega)) (oz_fr_tr (oz_fr_w (by omega)) (oz_fr_w (by omega)))), fun j hj => ?_⟩
      · rw [oz_w_o (by omega), oz_w_s]
      · rw [oz_w_o (by omega), oz_w_o (by omega), m2.1 1 (by omega), oz_w_s]
      · rw [oz_w_o (by omega), oz_w_o (by omega), m2.1 1 (by omega)]; exact hft
      · rw [oz_w_n hj, oz_w_o (by omega), m2.1 0 (by omega)]; exact hz j
    · rw [oz_ilt_f (by omega) (by omega)]
      simp only [if_neg c]
      exact ⟨_, rfl, C2, V, oz_w_s, hft, hz 10, f2, fun j _ => hz j⟩
end
