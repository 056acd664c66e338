/-! ===== the law's text: what is read, and the class's reading ===== -/
def oz_prt (T : Nat → Nat) (len : Nat) (st : Nat ⊕ Nat) : Nat × (Nat ⊕ Nat) :=
  if oz_isW T len 64 st = true then (1000, oz_toW T len 64 st)
  else if oz_isW T len 65 st = true then (1001, oz_toW T len 65 st)
  else if oz_isW T len 66 st = true then (1002, oz_toW T len 66 st)
  else if oz_isW T len 67 st = true then (1003, oz_toW T len 67 st)
  else if oz_isW T len 68 st = true then (1004, oz_toW T len 68 st)
  else if oz_isW T len 69 st = true then (1005, oz_toW T len 69 st)
  else if oz_isW T len 70 st = true then (1006, oz_toW T len 70 st)
  else (oz_nmV T len 0 (nI 999) st, oz_nmS T len 0 (nI 999) st)
def oz_smL (T : Nat → Nat) (len : Nat) : Nat → (Nat ⊕ Nat) → List Nat × (Nat ⊕ Nat)
  | 0, st => ([], st)
  | k + 1, st => if oz_isG T len 43 st = true then ((oz_prt T len (oz_toG T len 43 st)).1 :: 1011 :: (oz_smL T len k (oz_prt T len (oz_toG T len 43 st)).2).1, (oz_smL T len k (oz_prt T len (oz_toG T len 43 st)).2).2) else ([], st)
def oz_smP (T : Nat → Nat) (len : Nat) (st : Nat ⊕ Nat) : List Nat × (Nat ⊕ Nat) := ((oz_prt T len st).1 :: (oz_smL T len 401 (oz_prt T len st).2).1, (oz_smL T len 401 (oz_prt T len st).2).2)
def oz_cmp (T : Nat → Nat) (len : Nat) (st : Nat ⊕ Nat) : List Nat × (Nat ⊕ Nat) :=
  if oz_isG T len 60 (oz_smP T len st).2 = true then ((oz_smP T len st).1 ++ ((oz_smP T len (oz_toG T len 60 (oz_smP T len st).2)).1 ++ [1012]), (oz_smP T len (oz_toG T len 60 (oz_smP T len st).2)).2)
  else if oz_isG T len 62 (oz_smP T len st).2 = true then ((oz_smP T len st).1 ++ ((oz_smP T len (oz_toG T len 62 (oz_smP T len st).2)).1 ++ [1013]), (oz_smP T len (oz_toG T len 62 (oz_smP T len st).2)).2)
  else ((oz_smP T len st).1, oz_flt (oz_smP T len st).2)
def oz_pln (T : Nat → Nat) (len : Nat) (st : Nat ⊕ Nat) : List Nat × (Nat ⊕ Nat) :=
  if oz_isW T len 61 st = true then ([1007], oz_toW T len 61 st)
  else if oz_isW T len 62 st = true then ([1008], oz_toW T len 62 st)
  else if oz_isW T len 63 st = true then ([1009], oz_toW T len 63 st)
  else oz_cmp T len st
def oz_jnL (T : Nat → Nat) (len w x : Nat) (A : (Nat ⊕ Nat) → List Nat × (Nat ⊕ Nat)) : Nat → (Nat ⊕ Nat) → List Nat × (Nat ⊕ Nat)
  | 0, st => ([], st)
  | k + 1, st => if oz_isW T len w st = true then ((A (oz_toW T len w st)).1 ++ (x :: (oz_jnL T len w x A k (A (oz_toW T len w st)).2).1), (oz_jnL T len w x A k (A (oz_toW T len w st)).2).2) else ([], st)
def oz_jn (T : Nat → Nat) (len w x : Nat) (A : (Nat ⊕ Nat) → List Nat × (Nat ⊕ Nat)) (st : Nat ⊕ Nat) : List Nat × (Nat ⊕ Nat) := ((A st).1 ++ (oz_jnL T len w x A 401 (A st).2).1, (oz_jnL T len w x A 401 (A st).2).2)
def oz_atm (T : Nat → Nat) (len : Nat) : Nat → (Nat ⊕ Nat) → List Nat × (Nat ⊕ Nat)
  | 0 => fun st => oz_pln T len st
  | r + 1 => fun st => if oz_isW T len 60 st = true then ((oz_atm T len r (oz_toW T len 60 st)).1 ++ [1010], (oz_atm T len r (oz_toW T len 60 st)).2)
    else if oz_isG T len 40 st = true then ((oz_jn T len 58 1015 (oz_jn T len 59 1014 (oz_atm T len r)) (oz_toG T len 40 st)).1, if oz_isG T len 41 (oz_jn T len 58 1015 (oz_jn T len 59 1014 (oz_atm T len r)) (oz_toG T len 40 st)).2 = true then oz_toG T len 41 (oz_jn T len 58 1015 (oz_jn T len 59 1014 (oz_atm T len r)) (oz_toG T len 40 st)).2 else oz_flt (oz_jn T len 58 1015 (oz_jn T len 59 1014 (oz_atm T len r)) (oz_toG T len 40 st)).2)
    else oz_pln T len st
/-- how much text is left -/
def oz_mu (len : Nat) : Nat ⊕ Nat → Nat
  | Sum.inl _ => 0
  | Sum.inr p => len - p
section
variable {T : Nat → Nat} {len : Nat}
theorem oz_mu_W {t : Nat} {st : Nat ⊕ Nat} (h : oz_isW T len t st = true) (ht : 0 < (mj_tx t).length) : oz_mu len (oz_toW T len t st) + (mj_tx t).length ≤ oz_mu len st := by
  cases st with
  | inl q => exact Bool.noConfusion h
  | inr p =>
    have h' : oz_wd T len t p = true := h
    rw [oz_toW_t h']
    unfold oz_wd at h'
    rw [Bool.and_eq_true] at h'
    have hp := of_decide_eq_true h'.1
    have hs := oz_sb_le (T := T) hp
    show len - oz_sb T len (p + (mj_tx t).length) + (mj_tx t).length ≤ len - p
    omega
theorem oz_mu_G {c : Nat} {st : Nat ⊕ Nat} (h : oz_isG T len c st = true) : oz_mu len (oz_toG T len c st) + 1 ≤ oz_mu len st := by
  cases st with
  | inl q => exact Bool.noConfusion h
  | inr p =>
    have h' : p < len ∧ T p = c := of_decide_eq_true h
    have e : oz_toG T len c (Sum.inr p) = Sum.inr (oz_sb T len (p + 1)) := if_pos h'
    rw [e]
    have hs := oz_sb_le (T := T) (len := len) (p := p + 1) (by omega)
    show len - oz_sb T len (p + 1) + 1 ≤ len - p
    omega
theorem oz_mu_n {lo : Nat} {hi : Int32} {st : Nat ⊕ Nat} : oz_mu len (oz_nmS T len lo hi st) ≤ oz_mu len st ∧ ((oz_nmS T len lo hi st).isRight = true → 1 + oz_mu len (oz_nmS T len lo hi st) ≤ oz_mu len st ∨ len < (st.elim id id)) := by
  cases st with
  | inl q => exact ⟨Nat.le_refl _, fun h => Bool.noConfusion h⟩
  | inr p =>
    have e : oz_nmS T len lo hi (Sum.inr p) = if oz_nm1 T len lo hi p = true then Sum.inr (oz_sb T len (oz_dgs T len 4 p 0).1) else Sum.inl p := rfl
    rw [e]
    split
    · rename_i c
      have c' := of_decide_eq_true c
      by_cases hp : p ≤ len
      · have hd := oz_dgs_le (T := T) 4 p 0 hp
        have hs := oz_sb_le (T := T) hd.2.2.1
        have h1 := c'.1
        show len - oz_sb T len (oz_dgs T len 4 p 0).1 ≤ len - p ∧ (_ → 1 + (len - oz_sb T len (oz_dgs T len 4 p 0).1) ≤ len - p ∨ _)
        exact ⟨by omega, fun _ => Or.inl (by omega)⟩
      · exfalso
        apply c'.1
        show (if p < len ∧ oz_dg T p = true then _ else (p, 0) : Nat × Nat).1 = p
        rw [if_neg (by omega)]
    · exact ⟨Nat.zero_le _, fun h => Bool.noConfusion h⟩
/-- no more is told than is read -/
def oz_ln (len : Nat) (st : Nat ⊕ Nat) (x : List Nat × (Nat ⊕ Nat)) : Prop := oz_mu len x.2 ≤ oz_mu len st ∧ (x.2.isRight = true → x.1.length + oz_mu len x.2 ≤ oz_mu len st) ∧ (∀ p, x.2 = Sum.inr p → p ≤ len) ∧ (x.2.isRight = true → st.isRight = true)
def oz_lkp (len : Nat) (st : Nat ⊕ Nat) : Prop := ∀ p, st = Sum.inr p → p ≤ len
theorem oz_lk_W {t : Nat} {st : Nat ⊕ Nat} (h : oz_isW T len t st = true) : oz_lkp len (oz_toW T len t st) := by
  cases st with
  | inl q => exact Bool.noConfusion h
  | inr p =>
    have h' : oz_wd T len t p = true := h
    rw [oz_toW_t h']
    intro p2 h2
    cases h2
    exact oz_wd_le h'
theorem oz_lk_G {c : Nat} {st : Nat ⊕ Nat} (h : oz_isG T len c st = true) : oz_lkp len (oz_toG T len c st) := by
  cases st with
  | inl q => exact Bool.noConfusion h
  | inr p =>
    have h' : p < len ∧ T p = c := of_decide_eq_true h
    have e : oz_toG T len c (Sum.inr p) = Sum.inr (oz_sb T len (p + 1)) := if_pos h'
    rw [e]
    intro p2 h2
    cases h2
    exact (oz_sb_le (T := T) (len := len) (p := p + 1) (by omega)).2
theorem oz_isW_r {t : Nat} {st : Nat ⊕ Nat} (h : oz_isW T len t st = true) : st.isRight = true := by
  cases st with
  | inl q => exact Bool.noConfusion h
  | inr p => rfl
theorem oz_isG_r {c : Nat} {st : Nat ⊕ Nat} (h : oz_isG T len c st = true) : st.isRight = true := by
  cases st with
  | inl q => exact Bool.noConfusion h
  | inr p => rfl
theorem oz_toW_ir {t : Nat} {st : Nat ⊕ Nat} (h : oz_isW T len t st = true) : (oz_toW T len t st).isRight = true := by
  cases st with
  | inl q => exact Bool.noConfusion h
  | inr p => rw [oz_toW_t (show oz_wd T len t p = true from h)]; rfl
theorem oz_ln_prt {st : Nat ⊕ Nat} (hl : oz_lkp len st) : oz_mu len (oz_prt T len st).2 ≤ oz_mu len st ∧ ((oz_prt T len st).2.isRight = true → 1 + oz_mu len (oz_prt T len st).2 ≤ oz_mu len st) ∧ oz_lkp len (oz_prt T len st).2 ∧ ((oz_prt T len st).2.isRight = true → st.isRight = true) := by
  have w : ∀ t c, 0 < (mj_tx t).length → oz_isW T len t st = true → oz_mu len ((c, oz_toW T len t st) : Nat × (Nat ⊕ Nat)).2 ≤ oz_mu len st ∧ (((c, oz_toW T len t st) : Nat × (Nat ⊕ Nat)).2.isRight = true → 1 + oz_mu len ((c, oz_toW T len t st) : Nat × (Nat ⊕ Nat)).2 ≤ oz_mu len st) ∧ oz_lkp len ((c, oz_toW T len t st) : Nat × (Nat ⊕ Nat)).2 ∧ (((c, oz_toW T len t st) : Nat × (Nat ⊕ Nat)).2.isRight = true → st.isRight = true) := by
    intro t c ht h
    have := oz_mu_W h ht
    exact ⟨by show oz_mu len (oz_toW T len t st) ≤ _; omega, fun _ => by show 1 + oz_mu len (oz_toW T len t st) ≤ _; omega, oz_lk_W h, fun _ => oz_isW_r h⟩
  unfold oz_prt
  split
  · rename_i h; exact w 64 1000 (by decide +kernel) h
  · split
    · rename_i h; exact w 65 1001 (by decide +kernel) h
    · split
      · rename_i h; exact w 66 1002 (by decide +kernel) h
      · split
        · rename_i h; exact w 67 1003 (by decide +kernel) h
        · split
          · rename_i h; exact w 68 1004 (by decide +kernel) h
          · split
            · rename_i h; exact w 69 1005 (by decide +kernel) h
            · split
              · rename_i h; exact w 70 1006 (by decide +kernel) h
              · have m := oz_mu_n (T := T) (len := len) (lo := 0) (hi := nI 999) (st := st)
                refine ⟨m.1, fun h => ?_, fun p h => oz_nmS_le hl h, fun h => ?_⟩
                · rcases m.2 h with z | z
                  · exact z
                  · exfalso
                    cases st with
                    | inl q => exact Bool.noConfusion h
                    | inr p =>
                      have := hl p rfl
                      have z' : len < p := z
                      omega
                · cases st with
                  | inl q => exact Bool.noConfusion h
                  | inr p => rfl
theorem oz_ln_smL : ∀ k (st : Nat ⊕ Nat), oz_lkp len st → oz_ln len st (oz_smL T len k st) := by
  intro k
  induction k with
  | zero => intro st hl; exact ⟨Nat.le_refl _, fun _ => by show 0 + _ ≤ _; rw [Nat.zero_add]; exact Nat.le_refl _, hl, fun h => h⟩
  | succ k ih =>
    intro st hl
    unfold oz_smL
    split
    · rename_i h
      have m := oz_mu_G h
      have q := oz_ln_prt (T := T) (oz_lk_G h)
      have r := ih _ q.2.2.1
      refine ⟨Nat.le_trans r.1 (by omega), fun z => ?_, r.2.2.1, fun _ => oz_isG_r h⟩
      have r2 := r.2.1 z
      have q2 := q.2.1 (r.2.2.2 z)
      show ((oz_smL T len k (oz_prt T len (oz_toG T len 43 st)).2).1.length + 1 + 1) + oz_mu len (oz_smL T len k (oz_prt T len (oz_toG T len 43 st)).2).2 ≤ oz_mu len st
      omega
    · exact ⟨Nat.le_refl _, fun _ => by show 0 + _ ≤ _; rw [Nat.zero_add]; exact Nat.le_refl _, hl, fun h => h⟩
theorem oz_ln_smP {st : Nat ⊕ Nat} (hl : oz_lkp len st) : oz_ln len st (oz_smP T len st) := by
  have q := oz_ln_prt (T := T) hl
  have r := oz_ln_smL (T := T) 401 _ q.2.2.1
  unfold oz_smP
  refine ⟨Nat.le_trans r.1 q.1, fun z => ?_, r.2.2.1, fun z => q.2.2.2 (r.2.2.2 z)⟩
  have r2 := r.2.1 z
  have q2 := q.2.1 (r.2.2.2 z)
  show ((oz_smL T len 401 (oz_prt T len st).2).1.length + 1) + oz_mu len (oz_smL T len 401 (oz_prt T len st).2).2 ≤ oz_mu len st
  omega
theorem oz_ln_cmp {st : Nat ⊕ Nat} (hl : oz_lkp len st) : oz_ln len st (oz_cmp T len st) := by
  have q := oz_ln_smP (T := T) hl
  have two : ∀ c x, oz_isG T len c (oz_smP T len st).2 = true → oz_ln len st ((oz_smP T len st).1 ++ ((oz_smP T len (oz_toG T len c (oz_smP T len st).2)).1 ++ [x]), (oz_smP T len (oz_toG T len c (oz_smP T len st).2)).2) := by
    intro c x h
    have m := oz_mu_G h
    have r := oz_ln_smP (T := T) (oz_lk_G h)
    have q2 := q.2.1 (oz_isG_r h)
    have r1 := r.1
    refine ⟨by show oz_mu len (oz_smP T len (oz_toG T len c (oz_smP T len st).2)).2 ≤ _; omega, fun z => ?_, r.2.2.1, fun _ => q.2.2.2 (oz_isG_r h)⟩
    have r2 := r.2.1 z
    show ((oz_smP T len st).1 ++ ((oz_smP T len (oz_toG T len c (oz_smP T len st).2)).1 ++ [x])).length + oz_mu len (oz_smP T len (oz_toG T len c (oz_smP T len st).2)).2 ≤ oz_mu len st
    rw [List.length_append, List.length_append]
    show (oz_smP T len st).1.length + ((oz_smP T len (oz_toG T len c (oz_smP T len st).2)).1.length + 1) + _ ≤ _
    omega
  unfold oz_cmp
  split
  · rename_i h; exact two 60 1012 h
  · split
    · rename_i h; exact two 62 1013 h
    · exact ⟨Nat.zero_le _, fun z => Bool.noConfusion z, fun p hp => (nomatch hp), fun z => Bool.noConfusion z⟩
theorem oz_ln_pln {st : Nat ⊕ Nat} (hl : oz_lkp len st) : oz_ln len st (oz_pln T len st) := by
  have w : ∀ t c, 0 < (mj_tx t).length → oz_isW T len t st = true → oz_ln len st ([c], oz_toW T len t st) := by
    intro t c ht h
    have := oz_mu_W h ht
    exact ⟨by show oz_mu len (oz_toW T len t st) ≤ _; omega, fun _ => by show 1 + oz_mu len (oz_toW T len t st) ≤ _; omega, oz_lk_W h, fun _ => oz_isW_r h⟩
  unfold oz_pln
  split
  · rename_i h; exact w 61 _ (by decide +kernel) h
  · split
    · rename_i h; exact w 62 _ (by decide +kernel) h
    · split
      · rename_i h; exact w 63 _ (by decide +kernel) h
      · exact oz_ln_cmp hl
theorem oz_ln_jnL {w x : Nat} (hw : 0 < (mj_tx w).length) {A : (Nat ⊕ Nat) → List Nat × (Nat ⊕ Nat)} (hA : ∀ st, oz_lkp len st → oz_ln len st (A st)) : ∀ k (st : Nat ⊕ Nat), oz_lkp len st → oz_ln len st (oz_jnL T len w x A k st) := by
  intro k
  induction k with
  | zero => intro st hl; exact ⟨Nat.le_refl _, fun _ => by show 0 + _ ≤ _; rw [Nat.zero_add]; exact Nat.le_refl _, hl, fun h => h⟩
  | succ k ih =>
    intro st hl
    unfold oz_jnL
    split
    · rename_i h
      have m := oz_mu_W h hw
      have q := hA _ (oz_lk_W h)
      have r := ih _ q.2.2.1
      have q1 := q.1
      refine ⟨Nat.le_trans r.1 (by omega), fun z => ?_, r.2.2.1, fun _ => oz_isW_r h⟩
      have r2 := r.2.1 z
      have q2 := q.2.1 (r.2.2.2 z)
      show ((A (oz_toW T len w st)).1 ++ (x :: (oz_jnL T len w x A k (A (oz_toW T len w st)).2).1)).length + _ ≤ _
      rw [List.length_append]
      show (A (oz_toW T len w st)).1.length + ((oz_jnL T len w x A k (A (oz_toW T len w st)).2).1.length + 1) + oz_mu len (oz_jnL T len w x A k (A (oz_toW T len w st)).2).2 ≤ oz_mu len st
      omega
    · exact ⟨Nat.le_refl _, fun _ => by show 0 + _ ≤ _; rw [Nat.zero_add]; exact Nat.le_refl _, hl, fun h => h⟩
theorem oz_ln_jn {w x : Nat} (hw : 0 < (mj_tx w).length) {A : (Nat ⊕ Nat) → List Nat × (Nat ⊕ Nat)} (hA : ∀ st, oz_lkp len st → oz_ln len st (A st)) {st : Nat ⊕ Nat} (hl : oz_lkp len st) : oz_ln len st (oz_jn T len w x A st) := by
  have q := hA st hl
  have r := oz_ln_jnL (T := T) (x := x) hw hA 401 _ q.2.2.1
  unfold oz_jn
  refine ⟨Nat.le_trans r.1 q.1, fun z => ?_, r.2.2.1, fun z => q.2.2.2 (r.2.2.2 z)⟩
  have r2 := r.2.1 z
  have q2 := q.2.1 (r.2.2.2 z)
  show ((A st).1 ++ (oz_jnL T len w x A 401 (A st).2).1).length + _ ≤ _
  rw [List.length_append]
  show (A st).1.length + (oz_jnL T len w x A 401 (A st).2).1.length + oz_mu len (oz_jnL T len w x A 401 (A st).2).2 ≤ oz_mu len st
  omega
theorem oz_ln_atm : ∀ r (st : Nat ⊕ Nat), oz_lkp len st → oz_ln len st (oz_atm T len r st) := by
  intro r
  induction r with
  | zero => intro st hl; exact oz_ln_pln hl
  | succ r ih =>
    intro st hl
    unfold oz_atm
    split
    · rename_i h
      have m := oz_mu_W h (show 0 < (mj_tx 60).length by decide +kernel)
      have m3 : 1 ≤ (mj_tx 60).length := by decide +kernel
      have q := ih _ (oz_lk_W h)
      have q1 := q.1
      refine ⟨Nat.le_trans q.1 (by omega), fun z => ?_, q.2.2.1, fun _ => oz_isW_r h⟩
      have q2 := q.2.1 z
      show ((oz_atm T len r (oz_toW T len 60 st)).1 ++ [1010]).length + oz_mu len (oz_atm T len r (oz_toW T len 60 st)).2 ≤ _
      rw [List.length_append]
      show (oz_atm T len r (oz_toW T len 60 st)).1.length + 1 + _ ≤ _
      omega
    · split
      · rename_i h
        have m := oz_mu_G h
        have q := oz_ln_jn (T := T) (w := 58) (x := 1015) (by decide +kernel) (fun st hl => oz_ln_jn (T := T) (w := 59) (x := 1014) (by decide +kernel) ih (st := st) hl) (oz_lk_G h)
        by_cases c : oz_isG T len 41 (oz_jn T len 58 1015 (oz_jn T len 59 1014 (oz_atm T len r)) (oz_toG T len 40 st)).2 = true
        · rw [if_pos c]
          have m2 := oz_mu_G c
          have q2 := q.2.1 (oz_isG_r c)
          refine ⟨by show oz_mu len (oz_toG T len 41 _) ≤ _; omega, fun z => by show (oz_jn T len 58 1015 (oz_jn T len 59 1014 (oz_atm T len r)) (oz_toG T len 40 st)).1.length + oz_mu len (oz_toG T len 41 _) ≤ _; omega, oz_lk_G c, fun _ => oz_isG_r h⟩
        · rw [if_neg c]
          exact ⟨Nat.zero_le _, fun z => Bool.noConfusion z, fun p hp => (nomatch hp), fun z => Bool.noConfusion z⟩
      · exact oz_ln_pln hl
end
