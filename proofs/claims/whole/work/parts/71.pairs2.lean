/-! ===== pairs: the model's table ===== -/
section
variable {s : lf_S} {a : Nat → Nat}
/-- which choice is kept -/
theorem oz_tps_ch {val W : Nat → Nat} {M : Nat → Bool} {w0 : Nat} : ∀ N, (oz_it (oz_tps val W M) N (w0, none) = (w0, none) ∧ ∀ o', o' < N → M o' = true → val o' + W o' ≤ w0) ∨ ∃ o w, oz_it (oz_tps val W M) N (w0, none) = (w, some o) ∧ o < N ∧ M o = true ∧ w = val o + W o ∧ w0 < w ∧ (∀ o', o' < o → M o' = true → val o' + W o' < w) ∧ ∀ o', o' < N → M o' = true → val o' + W o' ≤ w := by
  intro N
  induction N with
  | zero => exact Or.inl ⟨rfl, fun o' ho' => absurd ho' (by omega)⟩
  | succ N ih =>
    have es : oz_it (oz_tps val W M) (N + 1) (w0, none) = oz_tps val W M N (oz_it (oz_tps val W M) N (w0, none)) := rfl
    rw [es]
    generalize oz_it (oz_tps val W M) N (w0, none) = P at *
    have ed : oz_tps val W M N P = if M N = true ∧ P.1 < val N + W N then (val N + W N, some N) else P := rfl
    rw [ed]
    by_cases c : M N = true ∧ P.1 < val N + W N
    · rw [if_pos c]
      right
      refine ⟨N, _, rfl, by omega, c.1, rfl, ?_, ?_, ?_⟩
      · rcases ih with ⟨e, _⟩ | ⟨o, w, e, _, _, _, e2, _, _⟩
        · rw [e] at c; exact c.2
        · rw [e] at c; have := c.2; exact Nat.lt_trans e2 this
      · intro o' ho' hM
        rcases ih with ⟨e, e1⟩ | ⟨o, w, e, _, _, _, e2, _, e3⟩
        · rw [e] at c; exact Nat.lt_of_le_of_lt (e1 o' ho' hM) c.2
        · rw [e] at c; exact Nat.lt_of_le_of_lt (e3 o' ho' hM) c.2
      · intro o' ho' hM
        by_cases co : o' = N
        · rw [co]; exact Nat.le_refl _
        · rcases ih with ⟨e, e1⟩ | ⟨o, w, e, _, _, _, e2, _, e3⟩
          · rw [e] at c; exact Nat.le_of_lt (Nat.lt_of_le_of_lt (e1 o' (by omega) hM) c.2)
          · rw [e] at c; exact Nat.le_of_lt (Nat.lt_of_le_of_lt (e3 o' (by omega) hM) c.2)
    · rw [if_neg c]
      rcases ih with ⟨e, e1⟩ | ⟨o, w, e, e0, eM, ew, e2, e4, e3⟩
      · left
        refine ⟨e, fun o' ho' hM => ?_⟩
        by_cases co : o' = N
        · rw [co] at hM ⊢
          have := fun z => c ⟨hM, z⟩
          rw [e] at this
          exact Nat.le_of_not_lt this
        · exact e1 o' (by omega) hM
      · right
        refine ⟨o, w, e, by omega, eM, ew, e2, e4, fun o' ho' hM => ?_⟩
        by_cases co : o' = N
        · rw [co] at hM ⊢
          have := fun z => c ⟨hM, z⟩
          rw [e] at this
          exact Nat.le_of_not_lt this
        · exact e3 o' (by omega) hM
/-- only what stands at i and behind counts -/
theorem oz_pp_cg : ∀ m i F G, i + m = a 3 → (∀ y, i ≤ y → y < a 3 → F y = G y) → oz_pp a m i F = oz_pp a m i G := by
  intro m
  induction m with
  | zero => intro i F G _ _; rfl
  | succ m ih =>
    intro i F G hm h
    unfold oz_pp
    rw [ih (i + 1) F G (by omega) (fun y h1 h2 => h y (by omega) h2)]
    refine oz_it_congr (fun j P hj => ?_)
    unfold oz_tps
    have eM : oz_pM a i F j = oz_pM a i G j := by
      unfold oz_pM
      rw [h i (by omega) (by omega)]
      by_cases c : i < j
      · rw [h j (by omega) hj]
      · rw [decide_eq_false c, Bool.false_and, Bool.false_and]
    have eW : oz_pp a m (i + 1) (oz_wo F j) = oz_pp a m (i + 1) (oz_wo G j) := ih (i + 1) _ _ (by omega) (fun y h1 h2 => by
      unfold oz_wo
      rw [h y (by omega) h2])
    rw [eM]
    simp only [eW]
theorem oz_pA_cg : ∀ m i F G A, i + m = a 3 → (∀ y, i ≤ y → y < a 3 → F y = G y) → oz_pA a m i F A = oz_pA a m i G A := by
  intro m
  induction m with
  | zero => intro i F G A _ _; rfl
  | succ m ih =>
    intro i F G A hm h
    unfold oz_pA
    rw [oz_pp_cg (m + 1) i F G hm h]
    refine ih (i + 1) _ _ _ (by omega) (fun y h1 h2 => ?_)
    cases (oz_pp a (m + 1) i G).2 with
    | none => exact h y (by omega) h2
    | some j =>
      show (F y && _) = (G y && _)
      rw [h y (by omega) h2]
theorem oz_pp_n {m i : Nat} {F : Nat → Bool} (h : F i = false) : oz_pp a (m + 1) i F = ((oz_pp a m (i + 1) F).1, none) := by
  have e : oz_pp a (m + 1) i F = oz_it (oz_tps (oz_pv a i) (fun j => (oz_pp a m (i + 1) (oz_wo F j)).1) (oz_pM a i F)) (a 3) ((oz_pp a m (i + 1) F).1, none) := rfl
  rw [e]
  exact oz_tps_it (a 3) (fun o _ => oz_pM_n h)
theorem oz_pA_n {m i : Nat} {F : Nat → Bool} {A : Nat → Option Nat} (h : F i = false) : oz_pA a (m + 1) i F A = oz_pA a m (i + 1) F A := by
  have e : oz_pA a (m + 1) i F A = oz_pA a m (i + 1) (oz_wc F (oz_pp a (m + 1) i F).2) (oz_pu A i (oz_pp a (m + 1) i F).2) := rfl
  rw [e, oz_pp_n h]
  rfl
theorem oz_pp_go {F : Nat → Bool} : ∀ d m i, i + m = a 3 → d ≤ m → (∀ y, i ≤ y → y < i + d → F y = false) → (oz_pp a m i F).1 = (oz_pp a (m - d) (i + d) F).1 := by
  intro d
  induction d with
  | zero => intro m i _ _ _; rfl
  | succ d ih =>
    intro m i hm hd h
    obtain ⟨m, rfl⟩ : ∃ m', m = m' + 1 := ⟨m - 1, by omega⟩
    rw [oz_pp_n (h i (by omega) (by omega))]
    show (oz_pp a m (i + 1) F).1 = _
    rw [ih m (i + 1) (by omega) (by omega) (fun y h1 h2 => h y (by omega) (by omega)), show m + 1 - (d + 1) = m - d by omega, show i + 1 + d = i + (d + 1) by omega]
theorem oz_pA_go {F : Nat → Bool} {A : Nat → Option Nat} : ∀ d m i, i + m = a 3 → d ≤ m → (∀ y, i ≤ y → y < i + d → F y = false) → oz_pA a m i F A = oz_pA a (m - d) (i + d) F A := by
  intro d
  induction d with
  | zero => intro m i _ _ _; rfl
  | succ d ih =>
    intro m i hm hd h
    obtain ⟨m, rfl⟩ : ∃ m', m = m' + 1 := ⟨m - 1, by omega⟩
    rw [oz_pA_n (h i (by omega) (by omega)), ih m (i + 1) (by omega) (by omega) (fun y h1 h2 => h y (by omega) (by omega)), show m + 1 - (d + 1) = m - d by omega, show i + 1 + d = i + (d + 1) by omega]
theorem oz_pp_c {m i : Nat} {F : Nat → Bool} : (oz_pp a (m + 1) i F = ((oz_pp a m (i + 1) F).1, none)) ∨ ∃ j w, oz_pp a (m + 1) i F = (w, some j) ∧ j < a 3 ∧ oz_pM a i F j = true ∧ w = oz_pv a i j + (oz_pp a m (i + 1) (oz_wo F j)).1 ∧ (oz_pp a m (i + 1) F).1 < w ∧ ∀ o', o' < j → oz_pM a i F o' = true → oz_pv a i o' + (oz_pp a m (i + 1) (oz_wo F o')).1 < w := by
  have e : oz_pp a (m + 1) i F = oz_it (oz_tps (oz_pv a i) (fun j => (oz_pp a m (i + 1) (oz_wo F j)).1) (oz_pM a i F)) (a 3) ((oz_pp a m (i + 1) F).1, none) := rfl
  rw [e]
  rcases oz_tps_ch (val := oz_pv a i) (W := fun j => (oz_pp a m (i + 1) (oz_wo F j)).1) (M := oz_pM a i F) (w0 := (oz_pp a m (i + 1) F).1) (a 3) with ⟨h, _⟩ | ⟨o, w, h1, h2, h3, h4, h5, h6, _⟩
  · exact Or.inl h
  · exact Or.inr ⟨o, w, h1, h2, h3, h4, h5, h6⟩
/-- what isn't free stays -/
theorem oz_pA_st : ∀ m i F A y, i + m = a 3 → (y < i ∨ F y = false) → oz_pA a m i F A y = A y := by
  intro m
  induction m with
  | zero => intro i F A y _ _; rfl
  | succ m ih =>
    intro i F A y hm h
    have e : oz_pA a (m + 1) i F A = oz_pA a m (i + 1) (oz_wc F (oz_pp a (m + 1) i F).2) (oz_pu A i (oz_pp a (m + 1) i F).2) := rfl
    rw [e]
    rcases oz_pp_c (a := a) (m := m) (i := i) (F := F) with c | ⟨j, w, c, _, hM, _⟩
    · rw [c]
      show oz_pA a m (i + 1) F A y = A y
      exact ih (i + 1) F A y (by omega) (by
        rcases h with h | h
        · exact Or.inl (by omega)
        · exact Or.inr h)
    · have hj := oz_pM_j hM
      have h1 : y ≠ i := by
        rcases h with h | h
        · omega
        · intro z; rw [z, hj.1] at h; exact Bool.noConfusion h
      have h2 : y ≠ j := by
        rcases h with h | h
        · omega
        · intro z; rw [z, hj.2.2.1] at h; exact Bool.noConfusion h
      rw [c]
      show oz_pA a m (i + 1) (oz_wo F j) (oz_uo (oz_uo A i (some j)) j (some i)) y = A y
      rw [ih (i + 1) _ _ y (by omega) (by
        rcases h with h | h
        · exact Or.inl (by omega)
        · exact Or.inr (by unfold oz_wo; rw [h, Bool.false_and])), oz_uo_n h2, oz_uo_n h1]
def oz_low (x : Nat) : Nat := if x.testBit 0 = true then 0 else if x.testBit 1 = true then 1 else if x.testBit 2 = true then 2 else if x.testBit 3 = true then 3 else if x.testBit 4 = true then 4 else 5
theorem oz_low_s : ∀ x, x < 64 → x ≠ 0 → oz_low x < 6 ∧ x.testBit (oz_low x) = true ∧ ∀ k, k < oz_low x → x.testBit k = false := by decide +kernel
theorem m_lowest {x : Nat} (h : x < 64) (h0 : x ≠ 0) : f_Mod_lowest (nI x) = some (nI (oz_low x)) := by
  obtain ⟨l1, l2, l3⟩ := oz_low_s x h h0
  have key := oz_forS (N := oz_low x) (fun _ (_ : Unit) => True) (fun f i _ => f_Mod_lowest_2 (nI x) f (nI i)) (fun o => o = some (nI (oz_low x))) (by
      intro f y _
      rw [f_Mod_lowest_2, m_isOf (by omega) (by omega), Option.bind_some, l2, if_pos rfl]) (by
      intro f i y hi _
      left
      refine ⟨(), trivial, ?_⟩
      rw [f_Mod_lowest_2, m_isOf (by omega) (by omega), Option.bind_some, l3 i hi, if_neg Bool.noConfusion]
      simp only [lf_lt, pl_1, nI_add]) (oz_low x) 0 5000 () (by omega) (by omega) trivial
  unfold f_Mod_lowest
  simp only [lf_lt, pl_0, key, Option.bind_some]
theorem m_both (V : oz_V a) {i j : Nat} (hi : i < a 3) (hj : j < a 3) : f_Mod_both (nI i) (nI j) (oz_md s a) = some (if oz_bed a i 0 = oz_bed a j 0 then oz_N else nI (oz_pv a i j)) := by
  have hv := oz_v0 V
  unfold oz_V0 at hv
  have bi := oz_v1 V hi
  have bj := oz_v1 V hj
  unfold oz_V1 at bi bj
  unfold f_Mod_both
  rw [pl_0, pl_2, pl_1, m_ofBed (by omega) (by omega), Option.bind_some, m_ofBed (by omega) (by omega), Option.bind_some]
  by_cases c : oz_bed a i 0 = oz_bed a j 0
  · rw [if_pos (by rw [c]), if_pos c, oz_neg1]
  · rw [if_neg (by rw [oz_eq (by omega) (by omega)]; exact c), if_neg c, m_ofBed (by omega) (by omega), Option.bind_some, m_ofBed (by omega) (by omega), Option.bind_some, nI_add]
    rfl
/-- the value of a set -/
def oz_pw (a : Nat → Nat) (set : Nat) : Nat := (oz_pp a (a 3) 0 set.testBit).1
theorem oz_pw_le (V : oz_V a) {set : Nat} : oz_pw a set ≤ 1188 := by
  have hv := oz_v0 V
  unfold oz_V0 at hv
  have := oz_pp_le V (a 3) 0 set.testBit (by omega)
  show (oz_pp a (a 3) 0 set.testBit).1 ≤ 1188
  omega
theorem oz_pw_rest (V : oz_V a) {set l m : Nat} (hs : set < 64) (hm : l + (m + 1) = a 3) (hl : ∀ k, k < l → set.testBit k = false) : oz_pw a (oz_clr set l) = (oz_pp a m (l + 1) set.testBit).1 := by
  have hv := oz_v0 V
  unfold oz_V0 at hv
  unfold oz_pw
  rw [oz_pp_go (l + 1) (a 3) 0 (by omega) (by omega) (by
    intro y _ hy
    rw [oz_clr_b set hs l (by omega) y (by omega)]
    by_cases c : y = l
    · rw [c]; simp
    · rw [hl y (by omega), Bool.false_and]), show a 3 - (l + 1) = m by omega, show 0 + (l + 1) = l + 1 by omega]
  rw [oz_pp_cg m (l + 1) _ set.testBit (by omega) (fun y h1 h2 => by
    rw [oz_clr_b set hs l (by omega) y (by omega)]
    have : (y == l) = false := by simp; omega
    rw [this]; simp)]
theorem oz_pw_two (V : oz_V a) {set l m j : Nat} (hs : set < 64) (hm : l + (m + 1) = a 3) (hl : ∀ k, k < l → set.testBit k = false) (hj : j < a 3) (hlj : l < j) : oz_pw a (oz_clr (oz_clr set l) j) = (oz_pp a m (l + 1) (oz_wo set.testBit j)).1 := by
  have hv := oz_v0 V
  unfold oz_V0 at hv
  have h64 := oz_clr_l set hs l (by omega)
  unfold oz_pw
  rw [oz_pp_go (l + 1) (a 3) 0 (by omega) (by omega) (by
    intro y _ hy
    rw [oz_clr_b _ h64 j (by omega) y (by omega), oz_clr_b set hs l (by omega) y (by omega)]
    by_cases c : y = l
    · rw [c]; simp
    · rw [hl y (by omega), Bool.false_and, Bool.false_and]), show a 3 - (l + 1) = m by omega, show 0 + (l + 1) = l + 1 by omega]
  rw [oz_pp_cg m (l + 1) _ (oz_wo set.testBit j) (by omega) (fun y h1 h2 => by
    rw [oz_clr_b _ h64 j (by omega) y (by omega), oz_clr_b set hs l (by omega) y (by omega)]
    have : (y == l) = false := by simp; omega
    rw [this]
    unfold oz_wo
    simp)]
theorem oz_pw_set (V : oz_V a) {set l m : Nat} (hm : l + (m + 1) = a 3) (hl : ∀ k, k < l → set.testBit k = false) : oz_pw a set = (oz_pp a (m + 1) l set.testBit).1 := by
  unfold oz_pw
  rw [oz_pp_go l (a 3) 0 (by omega) (by omega) (fun y _ hy => hl y (by omega)), show a 3 - l = m + 1 by omega, show 0 + l = l by omega]
end
