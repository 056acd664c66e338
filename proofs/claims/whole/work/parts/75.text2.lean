/-! ===== texts: numbers and signs, the class's ===== -/
def oz_dg (T : Nat → Nat) (p : Nat) : Bool := decide (48 ≤ T p ∧ T p ≤ 57)
/-- up to k digits from p on, v told so far -/
def oz_dgs (T : Nat → Nat) (len : Nat) : Nat → Nat → Nat → Nat × Nat
  | 0, p, v => (p, v)
  | k + 1, p, v => if p < len ∧ oz_dg T p = true then oz_dgs T len k (p + 1) (10 * v + (T p - 48)) else (p, v)
theorem oz_dgs_le {T : Nat → Nat} {len : Nat} : ∀ k p v, p ≤ len → p ≤ (oz_dgs T len k p v).1 ∧ (oz_dgs T len k p v).1 ≤ p + k ∧ (oz_dgs T len k p v).1 ≤ len ∧ (oz_dgs T len k p v).2 ≤ (v + 1) * 10 ^ k := by
  intro k
  induction k with
  | zero => intro p v h; exact ⟨Nat.le_refl _, Nat.le_refl _, h, by show v ≤ (v + 1) * 1; omega⟩
  | succ k ih =>
    intro p v h
    unfold oz_dgs
    split
    · rename_i c
      have hd := of_decide_eq_true c.2
      have := ih (p + 1) (10 * v + (T p - 48)) (by omega)
      refine ⟨by omega, by omega, this.2.2.1, Nat.le_trans this.2.2.2 ?_⟩
      have e : (v + 1) * 10 ^ (k + 1) = (v + 1) * 10 * 10 ^ k := by rw [Nat.pow_succ, Nat.mul_assoc, Nat.mul_comm (10 ^ k)]
      rw [e]
      exact Nat.mul_le_mul_right _ (by omega)
    · refine ⟨Nat.le_refl _, by omega, h, ?_⟩
      show v ≤ (v + 1) * 10 ^ (k + 1)
      have : 1 ≤ 10 ^ (k + 1) := Nat.le_trans Nat.one_le_two_pow (Nat.pow_le_pow_left (by omega) _)
      exact Nat.le_trans (by omega) (Nat.mul_le_mul_left (v + 1) this)
/-- a number between lo and hi stands at p -/
def oz_nm1 (T : Nat → Nat) (len lo : Nat) (hi : Int32) (p : Nat) : Bool := decide ((oz_dgs T len 4 p 0).1 ≠ p ∧ (oz_dgs T len 4 p 0).1 ≠ p + 4 ∧ lo ≤ (oz_dgs T len 4 p 0).2 ∧ nI (oz_dgs T len 4 p 0).2 ≤ hi)
def oz_nmV (T : Nat → Nat) (len lo : Nat) (hi : Int32) : Nat ⊕ Nat → Nat
  | Sum.inl _ => lo
  | Sum.inr p => if oz_nm1 T len lo hi p = true then (oz_dgs T len 4 p 0).2 else lo
def oz_nmS (T : Nat → Nat) (len lo : Nat) (hi : Int32) : Nat ⊕ Nat → Nat ⊕ Nat
  | Sum.inl q => Sum.inl q
  | Sum.inr p => if oz_nm1 T len lo hi p = true then Sum.inr (oz_sb T len (oz_dgs T len 4 p 0).1) else Sum.inl p
section
variable {s : lf_S} {T : Nat → Nat} {len : Nat}
theorem c_isDigit {x : Nat} (h : x ≤ 255) : f_Tape_isDigit (nI x) = some (decide (48 ≤ x ∧ x ≤ 57)) := by
  unfold f_Tape_isDigit
  rw [pl_48, pl_57]
  by_cases c1 : x < 48
  · rw [oz_ilt_t c1 (by omega), decide_eq_false (by omega)]
  · rw [oz_ilt_f (by omega) (by omega)]
    by_cases c2 : 57 < x
    · rw [oz_ilt_t c2 (by omega), decide_eq_false (by omega)]
    · rw [oz_ilt_f (by omega) (by omega), decide_eq_true (by omega)]
theorem c_number8 {c1 c2 : Int32} {p : Nat} (h1 : s.1 1 1 = nI len) (h2 : len ≤ 400) (h3 : ∀ i, i < len → T i ≤ 255 ∧ s.1 2 i = nI (T i)) (hp : s.1 1 3 = nI p) (hpl : p ≤ len) : ∀ k x v fuel, x + k = p + 4 → p ≤ x → x ≤ len → v ≤ 10000 → (v + 1) * 10 ^ k ≤ 10000 → k < fuel → f_Tape_takeNumber_8 c1 c2 fuel (nI x) (nI v) s = some (nI (oz_dgs T len k x v).1, nI (oz_dgs T len k x v).2, s) := by
  intro k
  induction k with
  | zero =>
    intro x v fuel hx hpx hxl hv hvk hf
    obtain ⟨fuel, rfl⟩ : ∃ m, fuel = m + 1 := ⟨fuel - 1, by omega⟩
    rw [f_Tape_takeNumber_8, h1]
    by_cases c : len ≤ x
    · rw [oz_ile_t c (by omega)]; rfl
    · rw [oz_ile_f (by omega) (by omega), hp, oz_sub hpx, pl_3, oz_ilt_t (by omega) (by omega)]; rfl
  | succ k ih =>
    intro x v fuel hx hpx hxl hv hvk hf
    obtain ⟨fuel, rfl⟩ : ∃ m, fuel = m + 1 := ⟨fuel - 1, by omega⟩
    unfold oz_dgs
    rw [f_Tape_takeNumber_8, h1]
    by_cases c : len ≤ x
    · rw [oz_ile_t c (by omega), if_neg (by omega)]
    · have e := h3 x (by omega)
      rw [oz_ile_f (by omega) (by omega), hp, oz_sub hpx, pl_3, oz_ilt_f (by omega) (by omega), oz_ck (by omega) (by omega), e.2, c_isDigit e.1, Option.bind_some]
      show (if oz_dg T x = true then _ else _) = _
      cases cd : oz_dg T x with
      | false => rw [if_neg Bool.noConfusion, if_neg (by intro z; exact Bool.noConfusion z.2)]
      | true =>
        have hd := of_decide_eq_true cd
        have e10 : (v + 1) * 10 ^ (k + 1) = (v + 1) * 10 * 10 ^ k := by rw [Nat.pow_succ, Nat.mul_assoc, Nat.mul_comm (10 ^ k)]
        rw [e10] at hvk
        have hvk2 : (10 * v + (T x - 48) + 1) * 10 ^ k ≤ 10000 := Nat.le_trans (Nat.mul_le_mul_right _ (by omega)) hvk
        have hk1 : 1 ≤ 10 ^ k := Nat.le_trans Nat.one_le_two_pow (Nat.pow_le_pow_left (by omega) _)
        have hb : 10 * v + (T x - 48) + 1 ≤ 10000 := Nat.le_trans (Nat.le_mul_of_pos_right _ hk1) hvk2
        rw [if_pos rfl, if_pos ⟨by omega, rfl⟩, pl_10, pl_48, pl_1, oz_ck (by omega) (by omega), e.2, pk_mul, nI_add, oz_sub (by omega), nI_add]
        simp only [lf_lt]
        rw [show 10 * v + T x - 48 = 10 * v + (T x - 48) by omega]
        exact ih (x + 1) _ fuel (by omega) (by omega) (by omega) (by omega) hvk2 (by omega)
theorem c_takeNumber {st : Nat ⊕ Nat} (X : oz_CX s T len st) {lo : Nat} {hi : Int32} (hlo : lo ≤ 1000) : ∃ u, f_Tape_takeNumber (nI lo) hi s = some (nI (oz_nmV T len lo hi st), u) ∧ oz_CX u T len (oz_nmS T len lo hi st) ∧ oz_fr (fun p => p = 1) s u := by
  have X' := X
  obtain ⟨h1, h2, h3, h4⟩ := X
  obtain ⟨p, hpl, hp⟩ : ∃ p, p ≤ len ∧ s.1 1 3 = nI p := by
    cases st with
    | inl q => exact h4.2.2
    | inr p => exact ⟨p, h4.2.2.1, h4.2.1⟩
  have k8 := c_number8 (c1 := nI lo) (c2 := hi) h1 h2 h3 hp hpl 4 p 0 5000 rfl (by omega) hpl (by omega) (by omega) (by omega)
  have hd := oz_dgs_le (T := T) 4 p 0 hpl
  obtain ⟨v, l1, l2, l3⟩ := c_fail X'
  have fl := c_failed l2
  have flt : (oz_flt st).isLeft = true := by cases st <;> rfl
  rw [flt] at fl
  unfold f_Tape_takeNumber
  simp only [lf_lt, pl_0]
  rw [hp, k8, Option.bind_some]
  try dsimp only
  rw [hp, l1]
  simp only [Option.bind_some]
  rw [fl]
  simp only [Option.bind_some, if_true]
  have hd2 : (oz_dgs T len 4 p 0).2 ≤ 10000 := hd.2.2.2
  have hd1 := hd.1
  have hd3 := hd.2.2.1
  simp (disch := first | assumption | omega) only [pl_3, oz_sub, oz_lt, oz_eq]
  have bad : oz_nmV T len lo hi st = lo → oz_nmS T len lo hi st = oz_flt st → ∃ u, some (nI lo, v) = some (nI (oz_nmV T len lo hi st), u) ∧ oz_CX u T len (oz_nmS T len lo hi st) ∧ oz_fr (fun p => p = 1) s u := by
    intro e1 e2
    rw [e1, e2]
    exact ⟨v, rfl, l2, l3⟩
  cases st with
  | inl q =>
    have e0 : c_failed X' = c_failed X' := rfl
    have nf := c_failed X'
    have isl : (Sum.inl q : Nat ⊕ Nat).isLeft = true := rfl
    rw [isl] at nf
    rw [nf]
    simp only [Option.bind_some, if_true]
    have vs : v = s := by
      have : f_Tape_fail s = some s := by
        unfold f_Tape_fail
        rw [pl_1, oz_neg1, h4.1, if_neg (of_eq_false (oz_eqm1 (by have := h4.2.1; omega)))]
      rw [this] at l1
      exact (Option.some.inj l1).symm
    rw [vs]
    have good : ∃ u, some (nI lo, s) = some (nI (oz_nmV T len lo hi (Sum.inl q)), u) ∧ oz_CX u T len (oz_nmS T len lo hi (Sum.inl q)) ∧ oz_fr (fun p => p = 1) s u := ⟨s, rfl, X', oz_fr_rf⟩
    split
    · exact good
    · split
      · exact good
      · split
        · exact good
        · split
          · exact good
          · exact good
  | inr p' =>
    obtain rfl : p = p' := oz_inj (by omega) (by have := h4.2.2.1; omega) (hp.symm.trans h4.2.1)
    have nf := c_failed X'
    have isl : (Sum.inr p : Nat ⊕ Nat).isLeft = false := rfl
    rw [isl] at nf
    rw [nf]
    have eV : oz_nmV T len lo hi (Sum.inr p) = if oz_nm1 T len lo hi p = true then (oz_dgs T len 4 p 0).2 else lo := rfl
    have eS : oz_nmS T len lo hi (Sum.inr p) = if oz_nm1 T len lo hi p = true then Sum.inr (oz_sb T len (oz_dgs T len 4 p 0).1) else Sum.inl p := rfl
    have b2 : oz_nm1 T len lo hi p = false → oz_nmV T len lo hi (Sum.inr p) = lo ∧ oz_nmS T len lo hi (Sum.inr p) = oz_flt (Sum.inr p) := by
      intro z
      rw [eV, eS, z, if_neg Bool.noConfusion, if_neg Bool.noConfusion]
      exact ⟨rfl, rfl⟩
    by_cases d1 : (oz_dgs T len 4 p 0).1 = p
    · rw [if_pos d1]
      have := b2 (by unfold oz_nm1; exact decide_eq_false (fun z => z.1 d1))
      exact bad this.1 this.2
    · rw [if_neg d1]
      by_cases d2 : 3 < (oz_dgs T len 4 p 0).1 - p
      · rw [if_pos d2]
        have := b2 (by unfold oz_nm1; exact decide_eq_false (fun z => z.2.1 (by omega)))
        exact bad this.1 this.2
      · rw [if_neg d2]
        by_cases d3 : (oz_dgs T len 4 p 0).2 < lo
        · rw [if_pos d3]
          have := b2 (by unfold oz_nm1; exact decide_eq_false (fun z => by have := z.2.2.1; omega))
          exact bad this.1 this.2
        · rw [if_neg d3]
          by_cases d4 : nI (oz_dgs T len 4 p 0).2 ≤ hi
          · have z : oz_nm1 T len lo hi p = true := by unfold oz_nm1; exact decide_eq_true ⟨d1, by omega, by omega, d4⟩
            rw [if_pos d4, eV, eS, z, if_pos rfl, if_pos rfl]
            simp only [Option.bind_some]
            rw [if_neg Bool.noConfusion, c_moveTo h1 h2 h3 hd.2.2.1, Option.bind_some]
            have hs := oz_sb_le (T := T) hd.2.2.1
            refine ⟨_, rfl, ⟨by rw [oz_w_n (by omega)]; exact h1, h2, fun i hi => by rw [oz_w_o (by omega)]; exact h3 i hi, ?_⟩, oz_fr_w rfl⟩
            show (lf_w s 1 3 _).1 1 2 = oz_N ∧ (lf_w s 1 3 _).1 1 3 = nI _ ∧ _ ≤ len ∧ _
            exact ⟨(oz_w_n (by omega)).trans h4.1, oz_w_s, hs.2, oz_sb_nb⟩
          · rw [if_neg d4]
            have := b2 (by unfold oz_nm1; exact decide_eq_false (fun z => d4 z.2.2.2))
            exact bad this.1 this.2
/-- a digit stands at p -/
def oz_isN (T : Nat → Nat) (len : Nat) : Nat ⊕ Nat → Bool
  | Sum.inl _ => false
  | Sum.inr p => decide (p < len) && oz_dg T p
theorem c_isNumber {st : Nat ⊕ Nat} (X : oz_CX s T len st) : f_Tape_isNumber s = some (oz_isN T len st) := by
  have nf := c_failed X
  obtain ⟨h1, h2, h3, h4⟩ := X
  unfold f_Tape_isNumber
  rw [nf, Option.bind_some]
  cases st with
  | inl q => rfl
  | inr p =>
    rw [if_neg Bool.noConfusion, h1, h4.2.1]
    show _ = some (decide (p < len) && oz_dg T p)
    by_cases c : len ≤ p
    · rw [oz_ile_t c (by omega), decide_eq_false (by omega)]; rfl
    · have e := h3 p (by omega)
      rw [oz_ile_f (by omega) (by omega), oz_ck (by omega) (by omega), e.2, c_isDigit e.1, Option.bind_some, show decide (p < len) = true from decide_eq_true (by omega), Bool.true_and]
      show (if oz_dg T p = true then _ else _) = _
      cases oz_dg T p <;> rfl
/-- sign c stands at p -/
def oz_isG (T : Nat → Nat) (len c : Nat) : Nat ⊕ Nat → Bool
  | Sum.inl _ => false
  | Sum.inr p => decide (p < len ∧ T p = c)
theorem c_isSign {st : Nat ⊕ Nat} (X : oz_CX s T len st) {c : Nat} (hc : c ≤ 255) : f_Tape_isSign (nI c) s = some (oz_isG T len c st) := by
  have nf := c_failed X
  obtain ⟨h1, h2, h3, h4⟩ := X
  unfold f_Tape_isSign
  rw [nf, Option.bind_some]
  cases st with
  | inl q => rfl
  | inr p =>
    rw [if_neg Bool.noConfusion, h1, h4.2.1]
    show _ = some (decide (p < len ∧ T p = c))
    by_cases d : len ≤ p
    · rw [oz_ile_t d (by omega), decide_eq_false (by omega)]
    · have e := h3 p (by omega)
      rw [oz_ile_f (by omega) (by omega), oz_ck (by omega) (by omega), e.2]
      by_cases d2 : T p = c
      · rw [if_pos (by rw [d2]), decide_eq_true ⟨by omega, d2⟩]
      · rw [if_neg (by rw [oz_eq (by omega) (by omega)]; exact d2), decide_eq_false (fun z => d2 z.2)]
def oz_toG (T : Nat → Nat) (len c : Nat) : Nat ⊕ Nat → Nat ⊕ Nat
  | Sum.inl q => Sum.inl q
  | Sum.inr p => if p < len ∧ T p = c then Sum.inr (oz_sb T len (p + 1)) else Sum.inr p
theorem c_takeSign {st : Nat ⊕ Nat} (X : oz_CX s T len st) {c : Nat} (hc : c ≤ 255) : ∃ u, f_Tape_takeSign (nI c) s = some (oz_isG T len c st, u) ∧ oz_CX u T len (oz_toG T len c st) ∧ oz_fr (fun p => p = 1) s u := by
  have e := c_isSign X hc
  unfold f_Tape_takeSign
  rw [e, Option.bind_some]
  simp only [lf_lt]
  cases st with
  | inl q => exact ⟨s, rfl, X, oz_fr_rf⟩
  | inr p =>
    obtain ⟨h1, h2, h3, h4⟩ := X
    have ei : oz_isG T len c (Sum.inr p) = decide (p < len ∧ T p = c) := rfl
    have et : oz_toG T len c (Sum.inr p) = if p < len ∧ T p = c then Sum.inr (oz_sb T len (p + 1)) else Sum.inr p := rfl
    rw [ei, et]
    by_cases d : p < len ∧ T p = c
    · have hs := oz_sb_le (T := T) (len := len) (p := p + 1) (by omega)
      rw [decide_eq_true d, if_pos rfl, if_pos d, h4.2.1, pl_1, nI_add, c_moveTo h1 h2 h3 (by omega)]
      refine ⟨_, rfl, ⟨by rw [oz_w_n (by omega)]; exact h1, h2, fun i hi => by rw [oz_w_o (by omega)]; exact h3 i hi, ?_⟩, oz_fr_w rfl⟩
      show (lf_w s 1 3 _).1 1 2 = oz_N ∧ (lf_w s 1 3 _).1 1 3 = nI _ ∧ _ ≤ len ∧ _
      exact ⟨(oz_w_n (by omega)).trans h4.1, oz_w_s, hs.2, oz_sb_nb⟩
    · rw [decide_eq_false d, if_neg Bool.noConfusion, if_neg d]
      exact ⟨s, rfl, ⟨h1, h2, h3, h4⟩, oz_fr_rf⟩
end
