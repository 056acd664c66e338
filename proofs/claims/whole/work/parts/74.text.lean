/-! ===== texts: what is read, and the class's reading ===== -/
/-- blanks passed -/
def oz_sbf (T : Nat → Nat) (len : Nat) : Nat → Nat → Nat
  | 0, p => p
  | n + 1, p => if p < len ∧ T p = 32 then oz_sbf T len n (p + 1) else p
def oz_sb (T : Nat → Nat) (len p : Nat) : Nat := oz_sbf T len (len - p) p
theorem oz_sbf_le {T : Nat → Nat} {len : Nat} : ∀ n p, p ≤ len → p ≤ oz_sbf T len n p ∧ oz_sbf T len n p ≤ len := by
  intro n
  induction n with
  | zero => intro p h; exact ⟨Nat.le_refl _, h⟩
  | succ n ih =>
    intro p h
    unfold oz_sbf
    split
    · rename_i c
      have := ih (p + 1) (by omega)
      omega
    · omega
theorem oz_sb_le {T : Nat → Nat} {len p : Nat} (h : p ≤ len) : p ≤ oz_sb T len p ∧ oz_sb T len p ≤ len := oz_sbf_le _ p h
theorem oz_sbf_nb {T : Nat → Nat} {len : Nat} : ∀ n p, n = len - p → oz_sbf T len n p < len → T (oz_sbf T len n p) ≠ 32 := by
  intro n
  induction n with
  | zero => intro p h h2; change p < len at h2; omega
  | succ n ih =>
    intro p h
    unfold oz_sbf
    split
    · exact ih (p + 1) (by omega)
    · rename_i c
      intro h2 e
      exact c ⟨h2, e⟩
theorem oz_sb_nb {T : Nat → Nat} {len p : Nat} : oz_sb T len p < len → T (oz_sb T len p) ≠ 32 := oz_sbf_nb _ p rfl
theorem oz_sb_st {T : Nat → Nat} {len p : Nat} (h : p < len → T p ≠ 32) : oz_sb T len p = p := by
  unfold oz_sb
  cases e : len - p with
  | zero => rfl
  | succ n =>
    unfold oz_sbf
    rw [if_neg (fun z => h z.1 z.2)]
theorem oz_sb_s {T : Nat → Nat} {len p : Nat} (h : p < len) (h2 : T p = 32) : oz_sb T len p = oz_sb T len (p + 1) := by
  unfold oz_sb
  obtain ⟨n, hn⟩ : ∃ n, len - p = n + 1 := ⟨len - p - 1, by omega⟩
  rw [hn, show len - (p + 1) = n by omega]
  show (if p < len ∧ T p = 32 then oz_sbf T len n (p + 1) else p) = _
  rw [if_pos ⟨h, h2⟩]
/-- the state of a reading: at p, or false at q -/
def oz_CX (s : lf_S) (T : Nat → Nat) (len : Nat) (st : Nat ⊕ Nat) : Prop := s.1 1 1 = nI len ∧ len ≤ 400 ∧ (∀ i, i < len → T i ≤ 255 ∧ s.1 2 i = nI (T i)) ∧ match st with
  | Sum.inr p => s.1 1 2 = oz_N ∧ s.1 1 3 = nI p ∧ p ≤ len ∧ (p < len → T p ≠ 32)
  | Sum.inl q => s.1 1 2 = nI q ∧ q ≤ 400 ∧ ∃ p, p ≤ len ∧ s.1 1 3 = nI p
theorem oz_w_w {s : lf_S} {a i : Nat} {v w : Int32} : lf_w (lf_w s a i v) a i w = lf_w s a i w := by
  refine oz_S_ext (fun p => ?_) rfl
  by_cases c : p = a
  · subst c
    funext j
    by_cases d : j = i
    · rw [d, oz_w_s, oz_w_s]
    · rw [oz_w_n d, oz_w_n d, oz_w_n d]
  · rw [oz_w_o c, oz_w_o c, oz_w_o c]
section
variable {s : lf_S} {T : Nat → Nat} {len : Nat}
theorem c_move5 (h1 : s.1 1 1 = nI len) (h2 : len ≤ 400) (h3 : ∀ i, i < len → T i ≤ 255 ∧ s.1 2 i = nI (T i)) : ∀ n p fuel, n = len - p → p ≤ len → n < fuel → f_Tape_moveTo_5 fuel (lf_w s 1 3 (nI p)) = some (lf_w s 1 3 (nI (oz_sb T len p))) := by
  intro n
  induction n with
  | zero =>
    intro p fuel hn hp hf
    obtain ⟨fuel, rfl⟩ : ∃ m, fuel = m + 1 := ⟨fuel - 1, by omega⟩
    rw [oz_sb_st (by omega), f_Tape_moveTo_5, oz_w_n (by omega), oz_w_s, h1, oz_ile_t (by omega) (by omega)]
  | succ n ih =>
    intro p fuel hn hp hf
    obtain ⟨fuel, rfl⟩ : ∃ m, fuel = m + 1 := ⟨fuel - 1, by omega⟩
    have e := h3 p (by omega)
    rw [f_Tape_moveTo_5, oz_w_n (by omega), oz_w_s, h1, oz_ile_f (by omega) (by omega), oz_ck (by omega) (by omega), oz_w_o (by omega), e.2]
    by_cases c : T p = 32
    · rw [if_pos (by rw [c]; rfl), oz_sb_s (by omega) c]
      simp only [lf_lt, pl_1, nI_add, oz_w_w]
      exact ih (p + 1) fuel (by omega) (by omega) (by omega)
    · rw [if_neg (by rw [pl_32, oz_eq (by omega) (by omega)]; exact c), oz_sb_st (fun _ => c)]
theorem c_moveTo (h1 : s.1 1 1 = nI len) (h2 : len ≤ 400) (h3 : ∀ i, i < len → T i ≤ 255 ∧ s.1 2 i = nI (T i)) {p : Nat} (hp : p ≤ len) : f_Tape_moveTo (nI p) s = some (lf_w s 1 3 (nI (oz_sb T len p))) := by
  unfold f_Tape_moveTo
  simp only [lf_lt]
  rw [c_move5 h1 h2 h3 (len - p) p 5000 rfl hp (by omega)]
  rfl
theorem c_failed {st : Nat ⊕ Nat} (X : oz_CX s T len st) : f_Tape_failed s = some st.isLeft := by
  obtain ⟨h1, h2, h3, h4⟩ := X
  unfold f_Tape_failed
  rw [pl_1, oz_neg1]
  cases st with
  | inl q =>
    have h : s.1 1 2 = nI q ∧ q ≤ 400 ∧ ∃ p, p ≤ len ∧ s.1 1 3 = nI p := h4
    rw [h.1, if_neg (of_eq_false (oz_eqm1 (by omega)))]; rfl
  | inr p =>
    have h : s.1 1 2 = oz_N ∧ s.1 1 3 = nI p ∧ p ≤ len ∧ (p < len → T p ≠ 32) := h4
    rw [h.1, if_pos rfl]; rfl
/-- a fault set, where none is -/
def oz_flt (st : Nat ⊕ Nat) : Nat ⊕ Nat := Sum.inl (st.elim id id)
theorem c_fail {st : Nat ⊕ Nat} (X : oz_CX s T len st) : ∃ t, f_Tape_fail s = some t ∧ oz_CX t T len (oz_flt st) ∧ oz_fr (fun p => p = 1) s t := by
  obtain ⟨h1, h2, h3, h4⟩ := X
  unfold f_Tape_fail
  rw [pl_1, oz_neg1]
  cases st with
  | inl q =>
    have h : s.1 1 2 = nI q ∧ q ≤ 400 ∧ ∃ p, p ≤ len ∧ s.1 1 3 = nI p := h4
    rw [h.1, if_neg (of_eq_false (oz_eqm1 (by omega)))]
    exact ⟨s, rfl, ⟨h1, h2, h3, h4⟩, oz_fr_rf⟩
  | inr p =>
    have h : s.1 1 2 = oz_N ∧ s.1 1 3 = nI p ∧ p ≤ len ∧ (p < len → T p ≠ 32) := h4
    rw [h.1, if_pos rfl]
    simp only [lf_lt]
    refine ⟨_, rfl, ⟨by rw [oz_w_n (by omega)]; exact h1, h2, fun i hi => by rw [oz_w_o (by omega)]; exact h3 i hi, ?_⟩, oz_fr_w rfl⟩
    show (lf_w s 1 2 (s.1 1 3)).1 1 2 = nI p ∧ p ≤ 400 ∧ ∃ p', p' ≤ len ∧ (lf_w s 1 2 (s.1 1 3)).1 1 3 = nI p'
    exact ⟨oz_w_s.trans h.2.1, by omega, p, h.2.2.1, (oz_w_n (by omega)).trans h.2.1⟩
/-- a word stands at p -/
def oz_wd (T : Nat → Nat) (len t p : Nat) : Bool := decide (p + (mj_tx t).length ≤ len) && (oz_ok (fun i => decide (nI (T (p + i)) = (mj_tx t).getD i 0)) (mj_tx t).length && (decide (p + (mj_tx t).length = len) || !decide (97 ≤ T (p + (mj_tx t).length) ∧ T (p + (mj_tx t).length) ≤ 122)))
def oz_isW (T : Nat → Nat) (len t : Nat) : Nat ⊕ Nat → Bool
  | Sum.inl _ => false
  | Sum.inr p => oz_wd T len t p
theorem c_isWord {st : Nat ⊕ Nat} (X : oz_CX s T len st) (t : Nat) (ht : (mj_tx t).length ≤ 20) : f_Tape_isWord t s = some (oz_isW T len t st) := by
  obtain ⟨h1, h2, h3, h4⟩ := X
  unfold f_Tape_isWord
  rw [pl_1, oz_neg1]
  cases st with
  | inl q =>
    have h : s.1 1 2 = nI q ∧ q ≤ 400 ∧ ∃ p, p ≤ len ∧ s.1 1 3 = nI p := h4
    simp only [lf_lt]
    rw [h.1, if_neg (of_eq_false (oz_eqm1 (by omega)))]
    rfl
  | inr p =>
    have h : s.1 1 2 = oz_N ∧ s.1 1 3 = nI p ∧ p ≤ len ∧ (p < len → T p ≠ 32) := h4
    simp only [lf_lt]
    rw [h.1, if_pos rfl, h.2.1, h1, nI_add]
    show _ = some (oz_wd T len t p)
    unfold oz_wd
    by_cases c : p + (mj_tx t).length ≤ len
    · rw [oz_ile_t c (by omega), decide_eq_true c, Bool.true_and]
      have key := oz_searchF (N := p + (mj_tx t).length) (i0 := p) (fun f i => f_Tape_isWord_33 t (nI (p + (mj_tx t).length)) f (nI i) s) (fun i => !decide (nI (T i) = (mj_tx t).getD (i - p) 0)) (Sum.inl ()) (fun _ => Sum.inr false) (by
          intro f
          rw [f_Tape_isWord_33, oz_ile_t (by omega) (by omega)]) (by
          intro f i hi0 hi
          have e := h3 i (by omega)
          rw [f_Tape_isWord_33, oz_ile_f hi (by omega), oz_ck (by omega) (by omega), h.2.1, oz_sub hi0, oz_ck (by omega) (by omega), e.2]
          by_cases ce : nI (T i) = (mj_tx t).getD (i - p) 0
          · rw [if_pos ce, decide_eq_true ce, if_neg (by simp)]
            simp only [lf_lt, pl_1, nI_add]
          · rw [if_neg ce, decide_eq_false ce]; rfl) (mj_tx t).length p 5000 (by omega) (by omega) (by omega)
      rw [key, Option.bind_some]
      cases hz : oz_ok (fun i => decide (nI (T (p + i)) = (mj_tx t).getD i 0)) (mj_tx t).length with
      | true =>
        rw [oz_ok_t] at hz
        have e := oz_fst_no (P := fun i => !decide (nI (T i) = (mj_tx t).getD (i - p) 0)) (mj_tx t).length p (fun j h1 h2 => by
          have := hz (j - p) (by omega)
          rw [show p + (j - p) = j by omega] at this
          show (!decide _) = false
          rw [this]; rfl)
        rw [e]
        show (if nI (p + (mj_tx t).length) = nI len then _ else _) = _
        by_cases ce : p + (mj_tx t).length = len
        · rw [if_pos (by rw [ce]), decide_eq_true ce]; rfl
        · have e2 := h3 (p + (mj_tx t).length) (by omega)
          rw [if_neg (by rw [oz_eq (by omega) (by omega)]; exact ce), decide_eq_false ce, oz_ck (by omega) (by omega), e2.2, pl_97]
          by_cases d1 : T (p + (mj_tx t).length) < 97
          · rw [oz_ilt_t d1 (by omega), decide_eq_false (by omega)]; rfl
          · rw [oz_ilt_f (by omega) (by omega), oz_ck (by omega) (by omega), e2.2, pl_122]
            by_cases d2 : T (p + (mj_tx t).length) ≤ 122
            · rw [oz_ile_t d2 (by omega), decide_eq_true (by omega)]; rfl
            · rw [oz_ile_f (by omega) (by omega), decide_eq_false (by omega)]; rfl
      | false =>
        cases e : oz_fst (fun i => !decide (nI (T i) = (mj_tx t).getD (i - p) 0)) p (mj_tx t).length with
        | some j => rfl
        | none =>
          exfalso
          have all : ∀ i, i < (mj_tx t).length → decide (nI (T (p + i)) = (mj_tx t).getD i 0) = true := by
            intro i hi
            have fn : ∀ k i0, oz_fst (fun i => !decide (nI (T i) = (mj_tx t).getD (i - p) 0)) i0 k = none → ∀ j, i0 ≤ j → j < i0 + k → (!decide (nI (T j) = (mj_tx t).getD (j - p) 0)) = false := by
              intro k
              induction k with
              | zero => intro i0 _ j a b; omega
              | succ k ih =>
                intro i0 hh j a b
                unfold oz_fst at hh
                split at hh
                · cases hh
                · rename_i cc
                  by_cases cj : j = i0
                  · rw [cj]; simpa using cc
                  · exact ih (i0 + 1) hh j (by omega) (by omega)
            have := fn _ _ e (p + i) (by omega) (by omega)
            rw [show p + i - p = i by omega] at this
            cases hd : decide (nI (T (p + i)) = (mj_tx t).getD i 0) with
            | true => rfl
            | false => rw [hd] at this; exact Bool.noConfusion this
          rw [(oz_ok_t _).2 all] at hz
          exact Bool.noConfusion hz
    · rw [oz_ile_f (by omega) (by omega), decide_eq_false c]; rfl
def oz_toW (T : Nat → Nat) (len t : Nat) : Nat ⊕ Nat → Nat ⊕ Nat
  | Sum.inl q => Sum.inl q
  | Sum.inr p => if oz_wd T len t p = true then Sum.inr (oz_sb T len (p + (mj_tx t).length)) else Sum.inr p
theorem c_takeWord {st : Nat ⊕ Nat} (X : oz_CX s T len st) (t : Nat) (ht : (mj_tx t).length ≤ 20) : ∃ u, f_Tape_takeWord t s = some (oz_isW T len t st, u) ∧ oz_CX u T len (oz_toW T len t st) ∧ oz_fr (fun p => p = 1) s u := by
  have e := c_isWord X t ht
  unfold f_Tape_takeWord
  rw [e, Option.bind_some]
  simp only [lf_lt]
  cases st with
  | inl q => exact ⟨s, rfl, X, oz_fr_rf⟩
  | inr p =>
    obtain ⟨h1, h2, h3, h4⟩ := X
    have h : s.1 1 2 = oz_N ∧ s.1 1 3 = nI p ∧ p ≤ len ∧ (p < len → T p ≠ 32) := h4
    have ei : oz_isW T len t (Sum.inr p) = oz_wd T len t p := rfl
    have et : oz_toW T len t (Sum.inr p) = if oz_wd T len t p = true then Sum.inr (oz_sb T len (p + (mj_tx t).length)) else Sum.inr p := rfl
    rw [ei, et]
    cases c : oz_wd T len t p with
    | false =>
      rw [if_neg Bool.noConfusion, if_neg Bool.noConfusion]
      exact ⟨s, rfl, ⟨h1, h2, h3, h4⟩, oz_fr_rf⟩
    | true =>
      have hl : p + (mj_tx t).length ≤ len := by
        unfold oz_wd at c
        rw [Bool.and_eq_true] at c
        exact of_decide_eq_true c.1
      have hs := oz_sb_le (T := T) hl
      rw [if_pos rfl, if_pos rfl, h.2.1, nI_add, c_moveTo h1 h2 h3 hl]
      refine ⟨_, rfl, ⟨by rw [oz_w_n (by omega)]; exact h1, h2, fun i hi => by rw [oz_w_o (by omega)]; exact h3 i hi, ?_⟩, oz_fr_w rfl⟩
      show (lf_w s 1 3 _).1 1 2 = oz_N ∧ (lf_w s 1 3 _).1 1 3 = nI _ ∧ _ ≤ len ∧ _
      exact ⟨(oz_w_n (by omega)).trans h.1, oz_w_s, hs.2, oz_sb_nb⟩
def oz_ndW (T : Nat → Nat) (len t : Nat) (st : Nat ⊕ Nat) : Nat ⊕ Nat := if oz_isW T len t st = true then oz_toW T len t st else oz_flt st
theorem c_needWord {st : Nat ⊕ Nat} (X : oz_CX s T len st) (t : Nat) (ht : (mj_tx t).length ≤ 20) : ∃ u, f_Tape_needWord t s = some u ∧ oz_CX u T len (oz_ndW T len t st) ∧ oz_fr (fun p => p = 1) s u := by
  obtain ⟨u, k1, k2, k3⟩ := c_takeWord X t ht
  unfold f_Tape_needWord oz_ndW
  rw [k1, Option.bind_some]
  try dsimp only
  cases c : oz_isW T len t st with
  | true => rw [if_pos rfl, if_pos rfl]; exact ⟨u, rfl, k2, k3⟩
  | false =>
    have est : oz_toW T len t st = st := by
      cases st with
      | inl q => rfl
      | inr p => exact if_neg (by rw [show oz_wd T len t p = false from c]; exact Bool.noConfusion)
    rw [est] at k2
    obtain ⟨v, l1, l2, l3⟩ := c_fail k2
    rw [if_neg Bool.noConfusion, if_neg Bool.noConfusion, l1]
    exact ⟨v, rfl, l2, oz_fr_tr k3 l3⟩
end
