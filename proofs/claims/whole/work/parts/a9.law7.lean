/-! ===== the law reckoned: code that is right, and the class's ===== -/
/-- code of one value, of steps that there are -/
def oz_wfC (c : List Nat) (B : Nat) : Prop := (∀ x, x ∈ c → x < 1016) ∧ ∀ g, ∃ v, oz_one g B c v
theorem oz_wf_le {c : List Nat} {B D : Nat} (h : oz_wfC c B) (hd : D ≤ B) : oz_wfC c D := ⟨h.1, fun g => by
  obtain ⟨v, hv⟩ := h.2 g
  exact ⟨v, oz_one_le hv hd⟩⟩
theorem oz_wf_1 {x B : Nat} (hx : x < 1010) (hB : B < 24) : oz_wfC [x] B := ⟨fun y hy => by
  rw [List.mem_singleton] at hy
  omega, fun g => ⟨g x, oz_one_1 hx hB⟩⟩
theorem oz_wf_2 {c d : List Nat} {x B : Nat} (hx : 1010 < x) (hx2 : x < 1016) (h1 : oz_wfC c B) (h2 : oz_wfC d (B + 1)) : oz_wfC (c ++ (d ++ [x])) B := ⟨fun y hy => by
  rw [List.mem_append, List.mem_append, List.mem_singleton] at hy
  rcases hy with hy | hy | hy
  · exact h1.1 y hy
  · exact h2.1 y hy
  · omega, fun g => by
  obtain ⟨v, hv⟩ := h1.2 g
  obtain ⟨w, hw⟩ := h2.2 g
  exact ⟨_, oz_one_2 hx hv hw⟩⟩
theorem oz_wf_not {c : List Nat} {B : Nat} (h1 : oz_wfC c B) : oz_wfC (c ++ [1010]) B := ⟨fun y hy => by
  rw [List.mem_append, List.mem_singleton] at hy
  rcases hy with hy | hy
  · exact h1.1 y hy
  · omega, fun g => by
  obtain ⟨v, hv⟩ := h1.2 g
  exact ⟨_, oz_one_not hv⟩⟩
section
variable {T : Nat → Nat} {len : Nat}
theorem oz_wf_prt {st : Nat ⊕ Nat} (hl : oz_lkp len st) : (oz_prt T len st).1 < 1010 := by
  have b := oz_nmV_le (T := T) (len := len) (lo := 0) (h := 999) (st := st) (by omega) (by omega) hl
  unfold oz_prt
  split
  · show 1000 < 1010; omega
  · split
    · show 1001 < 1010; omega
    · split
      · show 1002 < 1010; omega
      · split
        · show 1003 < 1010; omega
        · split
          · show 1004 < 1010; omega
          · split
            · show 1005 < 1010; omega
            · split
              · show 1006 < 1010; omega
              · show oz_nmV T len 0 (nI 999) st < 1010; omega
theorem oz_wf_smL : ∀ k c (st : Nat ⊕ Nat), oz_lkp len st → oz_wfC c 22 → oz_wfC (c ++ (oz_smL T len k st).1) 22 := by
  intro k
  induction k with
  | zero => intro c st hl h; show oz_wfC (c ++ []) 22; rw [List.append_nil]; exact h
  | succ k ih =>
    intro c st hl h
    unfold oz_smL
    by_cases cg : oz_isG T len 43 st = true
    · rw [if_pos cg]
      have hl1 := oz_lk_G cg
      have hp := oz_wf_prt (T := T) hl1
      have := ih (c ++ ([(oz_prt T len (oz_toG T len 43 st)).1] ++ [1011])) _ (oz_ln_prt (T := T) hl1).2.2.1 (oz_wf_2 (by omega) (by omega) h (oz_wf_1 hp (by omega)))
      rw [List.append_assoc] at this
      exact this
    · rw [if_neg cg]
      show oz_wfC (c ++ []) 22
      rw [List.append_nil]; exact h
theorem oz_wf_smP {st : Nat ⊕ Nat} (hl : oz_lkp len st) : oz_wfC (oz_smP T len st).1 22 := oz_wf_smL 401 [(oz_prt T len st).1] _ (oz_ln_prt (T := T) hl).2.2.1 (oz_wf_1 (oz_wf_prt hl) (by omega))
theorem oz_wf_cmp {st : Nat ⊕ Nat} (hl : oz_lkp len st) (hr : (oz_cmp T len st).2.isRight = true) : oz_wfC (oz_cmp T len st).1 21 := by
  have h1 := oz_wf_smP (T := T) hl
  revert hr
  unfold oz_cmp
  split
  · rename_i h
    intro _
    exact oz_wf_2 (by omega) (by omega) (oz_wf_le h1 (by omega)) (oz_wf_smP (oz_lk_G h))
  · split
    · rename_i h
      intro _
      exact oz_wf_2 (by omega) (by omega) (oz_wf_le h1 (by omega)) (oz_wf_smP (oz_lk_G h))
    · intro z
      exact Bool.noConfusion z
theorem oz_wf_pln {st : Nat ⊕ Nat} (hl : oz_lkp len st) (hr : (oz_pln T len st).2.isRight = true) : oz_wfC (oz_pln T len st).1 21 := by
  revert hr
  unfold oz_pln
  split
  · intro _; exact oz_wf_1 (by omega) (by omega)
  · split
    · intro _; exact oz_wf_1 (by omega) (by omega)
    · split
      · intro _; exact oz_wf_1 (by omega) (by omega)
      · exact oz_wf_cmp hl
theorem oz_wf_jnL {w x B : Nat} (hx : 1010 < x) (hx2 : x < 1016) {A : (Nat ⊕ Nat) → List Nat × (Nat ⊕ Nat)} (hn : ∀ st, oz_lkp len st → oz_ln len st (A st)) (hA : ∀ st, oz_lkp len st → (A st).2.isRight = true → oz_wfC (A st).1 (B + 1)) : ∀ k c (st : Nat ⊕ Nat), oz_lkp len st → oz_wfC c B → (oz_jnL T len w x A k st).2.isRight = true → oz_wfC (c ++ (oz_jnL T len w x A k st).1) B := by
  intro k
  induction k with
  | zero => intro c st hl h _; show oz_wfC (c ++ []) B; rw [List.append_nil]; exact h
  | succ k ih =>
    intro c st hl h
    unfold oz_jnL
    by_cases cg : oz_isW T len w st = true
    · rw [if_pos cg]
      intro hr
      have hl1 := oz_lk_W cg
      have q := hn _ hl1
      have hr2 : (A (oz_toW T len w st)).2.isRight = true := by
        cases hz : (A (oz_toW T len w st)).2 with
        | inr p => rfl
        | inl p =>
          have hr' : (oz_jnL T len w x A k (A (oz_toW T len w st)).2).2.isRight = true := hr
          rw [hz, oz_jnL_l] at hr'
          exact Bool.noConfusion hr'
      have := ih (c ++ ((A (oz_toW T len w st)).1 ++ [x])) _ q.2.2.1 (oz_wf_2 hx hx2 h (hA _ hl1 hr2)) hr
      rw [List.append_assoc, List.append_assoc] at this
      exact this
    · rw [if_neg cg]
      intro _
      show oz_wfC (c ++ []) B
      rw [List.append_nil]; exact h
theorem oz_wf_jn {w x B : Nat} (hx : 1010 < x) (hx2 : x < 1016) {A : (Nat ⊕ Nat) → List Nat × (Nat ⊕ Nat)} (hn : ∀ st, oz_lkp len st → oz_ln len st (A st)) (hA : ∀ st, oz_lkp len st → (A st).2.isRight = true → oz_wfC (A st).1 (B + 1)) {st : Nat ⊕ Nat} (hl : oz_lkp len st) (hr : (oz_jn T len w x A st).2.isRight = true) : oz_wfC (oz_jn T len w x A st).1 B := by
  have hr2 : (A st).2.isRight = true := by
    cases hz : (A st).2 with
    | inr p => rfl
    | inl p =>
      have hr' : (oz_jnL T len w x A 401 (A st).2).2.isRight = true := hr
      rw [hz, oz_jnL_l] at hr'
      exact Bool.noConfusion hr'
  exact oz_wf_jnL hx hx2 hn hA 401 (A st).1 _ (hn st hl).2.2.1 (oz_wf_le (hA st hl hr2) (by omega)) hr
theorem oz_wf_atm : ∀ r (st : Nat ⊕ Nat), r ≤ 6 → oz_lkp len st → (oz_atm T len r st).2.isRight = true → oz_wfC (oz_atm T len r st).1 (21 - 2 * r) := by
  intro r
  induction r with
  | zero => intro st _ hl hr; exact oz_wf_pln hl hr
  | succ r ih =>
    intro st h6 hl hr
    revert hr
    unfold oz_atm
    by_cases c : oz_isW T len 60 st = true
    · rw [if_pos c]
      intro hr
      exact oz_wf_le (oz_wf_not (ih _ (by omega) (oz_lk_W c) hr)) (by omega)
    · rw [if_neg c]
      by_cases c2 : oz_isG T len 40 st = true
      · rw [if_pos c2]
        intro hr
        have hr2 : (oz_jn T len 58 1015 (oz_jn T len 59 1014 (oz_atm T len r)) (oz_toG T len 40 st)).2.isRight = true := by
          cases hz : (oz_jn T len 58 1015 (oz_jn T len 59 1014 (oz_atm T len r)) (oz_toG T len 40 st)).2 with
          | inr p => rfl
          | inl p =>
            have hr' : (if oz_isG T len 41 (oz_jn T len 58 1015 (oz_jn T len 59 1014 (oz_atm T len r)) (oz_toG T len 40 st)).2 = true then oz_toG T len 41 (oz_jn T len 58 1015 (oz_jn T len 59 1014 (oz_atm T len r)) (oz_toG T len 40 st)).2 else oz_flt (oz_jn T len 58 1015 (oz_jn T len 59 1014 (oz_atm T len r)) (oz_toG T len 40 st)).2).isRight = true := hr
            rw [hz] at hr'
            exact Bool.noConfusion hr'
        have e1 : 21 - 2 * (r + 1) = 19 - 2 * r := by omega
        have e2 : 19 - 2 * r + 1 + 1 = 21 - 2 * r := by omega
        have j1 : ∀ st, oz_lkp len st → oz_ln len st (oz_jn T len 59 1014 (oz_atm T len r) st) := fun st hl => oz_ln_jn (by decide +kernel) (oz_ln_atm r) hl
        rw [e1]
        exact oz_wf_jn (by omega) (by omega) j1 (fun st hl hr => oz_wf_jn (B := 19 - 2 * r + 1) (by omega) (by omega) (oz_ln_atm r) (fun st hl hr => by rw [e2]; exact ih st (by omega) hl hr) hl hr) (oz_lk_G c2) hr2
      · rw [if_neg c2]
        intro hr
        exact oz_wf_le (oz_wf_pln hl hr) (by omega)
theorem oz_wf_cnd {st : Nat ⊕ Nat} (hl : oz_lkp len st) (hr : (oz_cnd T len st).2.isRight = true) : oz_wfC (oz_cnd T len st).1 7 := by
  have j1 : ∀ st, oz_lkp len st → oz_ln len st (oz_jn T len 59 1014 (oz_atm T len 6) st) := fun st hl => oz_ln_jn (by decide +kernel) (oz_ln_atm 6) hl
  exact oz_wf_jn (by omega) (by omega) j1 (fun st hl hr => oz_wf_jn (B := 8) (by omega) (by omega) (oz_ln_atm 6) (fun st hl hr => oz_wf_atm 6 st (by omega) hl hr) hl hr) hl hr
/-- lines that are right -/
def oz_wfL (L : List (Nat × Nat × List Nat)) : Prop := ∀ l, l ∈ L → l.1 < 3 ∧ l.2.1 ≤ 99 ∧ (l.2.2 = [] ∨ oz_wfC l.2.2 7)
theorem oz_knd_le {p : Nat} : (oz_knd T len (Sum.inr p)).1 < 3 := by
  unfold oz_knd
  split
  · show 0 < 3; omega
  · split
    · show 1 < 3; omega
    · show 2 < 3; omega
theorem oz_knd_lk {p : Nat} : oz_lkp len (oz_knd T len (Sum.inr p)).2 := by
  unfold oz_knd
  split
  · rename_i h; exact oz_lk_W h
  · split
    · rename_i h; exact oz_lk_W h
    · intro q h; exact oz_ndW_le h
theorem oz_l1_lk {p : Nat} : oz_lkp len (oz_l1 T len p) := fun q h => oz_nmS_le oz_knd_lk h
theorem oz_wf_lln {p : Nat} (hr : (oz_l2 T len p).2.isRight = true) : (oz_lln T len p).1 < 3 ∧ (oz_lln T len p).2.1 ≤ 99 ∧ ((oz_lln T len p).2.2 = [] ∨ oz_wfC (oz_lln T len p).2.2 7) := by
  have b := oz_nmV_le (T := T) (len := len) (lo := 0) (h := 99) (st := (oz_knd T len (Sum.inr p)).2) (by omega) (by omega) oz_knd_lk
  refine ⟨oz_knd_le, b.2, ?_⟩
  show (oz_l2 T len p).1 = [] ∨ oz_wfC (oz_l2 T len p).1 7
  revert hr
  unfold oz_l2
  split
  · rename_i h
    intro hr
    exact Or.inr (oz_wf_cnd (oz_lk_W h) hr)
  · intro _
    exact Or.inl rfl
theorem oz_wf_lrd : ∀ k p, (oz_lrd T len k p).2.isRight = true → oz_wfL (oz_lrd T len k p).1 := by
  intro k
  induction k with
  | zero => intro p h; exact Bool.noConfusion h
  | succ k ih =>
    intro p
    cases hx : (oz_l2 T len p).2 with
    | inl q => rw [oz_lrd_l hx]; intro h; exact Bool.noConfusion h
    | inr p' =>
      have w := oz_wf_lln (T := T) (len := len) (p := p) (by rw [hx]; rfl)
      rw [oz_lrd_r hx]
      split
      · intro _ l hl
        rw [List.mem_singleton] at hl
        rw [hl]; exact w
      · split
        · intro h l hl
          rcases List.mem_cons.mp hl with hl | hl
          · rw [hl]; exact w
          · exact ih _ h l hl
        · intro h; exact Bool.noConfusion h
theorem oz_wf_lrA (h : (oz_lrA T len).2.isRight = true) : oz_wfL (oz_lrA T len).1 := by
  revert h
  unfold oz_lrA
  split
  · intro _ l hl; exact absurd hl List.not_mem_nil
  · exact oz_wf_lrd 12 _
/-- the code is no longer than the text -/
theorem oz_fl_lrd : ∀ k p, p ≤ len → (oz_lrd T len k p).2.isRight = true → (oz_fl (oz_lrd T len k p).1).length ≤ len - p := by
  intro k
  induction k with
  | zero => intro p _ h; exact Bool.noConfusion h
  | succ k ih =>
    intro p hp
    cases hx : (oz_l2 T len p).2 with
    | inl q => rw [oz_lrd_l hx]; intro h; exact Bool.noConfusion h
    | inr p' =>
      have hk : oz_mu len (oz_knd T len (Sum.inr p)).2 ≤ len - p := by
        unfold oz_knd
        split
        · rename_i h
          have := oz_mu_W h (show 0 < (mj_tx 55).length by decide +kernel)
          have e : oz_mu len (Sum.inr p) = len - p := rfl
          show oz_mu len (oz_toW T len 55 (Sum.inr p)) ≤ len - p
          omega
        · split
          · rename_i h
            have := oz_mu_W h (show 0 < (mj_tx 56).length by decide +kernel)
            have e : oz_mu len (Sum.inr p) = len - p := rfl
            show oz_mu len (oz_toW T len 56 (Sum.inr p)) ≤ len - p
            omega
          · show oz_mu len (if oz_isW T len 57 (Sum.inr p) = true then oz_toW T len 57 (Sum.inr p) else Sum.inl p) ≤ len - p
            split
            · rename_i h
              have := oz_mu_W h (show 0 < (mj_tx 57).length by decide +kernel)
              have e : oz_mu len (Sum.inr p) = len - p := rfl
              omega
            · exact Nat.zero_le _
      have h1 : oz_mu len (oz_l1 T len p) ≤ len - p := Nat.le_trans (oz_mu_n (T := T)).1 hk
      have h2 : (oz_l2 T len p).1.length + (len - p') ≤ len - p ∧ p' ≤ len := by
        have e2 : oz_l2 T len p = if oz_isW T len 54 (oz_l1 T len p) = true then oz_cnd T len (oz_toW T len 54 (oz_l1 T len p)) else ([], oz_l1 T len p) := rfl
        by_cases c : oz_isW T len 54 (oz_l1 T len p) = true
        · rw [if_pos c] at e2
          have m := oz_mu_W c (show 0 < (mj_tx 54).length by decide +kernel)
          have l := oz_ln_cnd (T := T) (oz_lk_W c)
          rw [← e2] at l
          have l2 := l.2.1 (by rw [hx]; rfl)
          have l3 := l.2.2.1 p' hx
          rw [hx] at l2
          have l4 : (oz_l2 T len p).1.length + (len - p') ≤ oz_mu len (oz_toW T len 54 (oz_l1 T len p)) := l2
          exact ⟨by omega, l3⟩
        · rw [if_neg c] at e2
          rw [e2] at hx
          have hx' : oz_l1 T len p = Sum.inr p' := hx
          have l3 := oz_l1_lk (T := T) p' hx'
          rw [hx'] at h1
          have h1' : len - p' ≤ len - p := h1
          rw [e2]
          exact ⟨by show 0 + (len - p') ≤ _; omega, l3⟩
      rw [oz_lrd_r hx]
      split
      · intro _
        show ((oz_l2 T len p).1 ++ []).length ≤ _
        rw [List.append_nil]
        omega
      · rename_i hlt
        split
        · intro h
          have hs := oz_sb_le (T := T) (len := len) (p := p' + 1) (by omega)
          have := ih _ hs.2 h
          show ((oz_l2 T len p).1 ++ oz_fl (oz_lrd T len k (oz_sb T len (p' + 1))).1).length ≤ _
          rw [List.length_append]
          omega
        · intro h; exact Bool.noConfusion h
theorem oz_fl_lrA (h : (oz_lrA T len).2.isRight = true) : (oz_fl (oz_lrA T len).1).length ≤ len := by
  revert h
  unfold oz_lrA
  split
  · intro _; exact Nat.zero_le _
  · intro h
    have hs := oz_sb_le (T := T) (len := len) (p := 0) (by omega)
    have := oz_fl_lrd (T := T) 12 _ hs.2 h
    omega
end
