/-! ===== texts: the model's reading ===== -/
/-- where the letters end -/
def oz_isL (T : Nat → Nat) (p : Nat) : Bool := decide (97 ≤ T p ∧ T p ≤ 122)
def oz_ref (T : Nat → Nat) (len : Nat) : Nat → Nat → Nat
  | 0, p => p
  | n + 1, p => if p < len ∧ oz_isL T p = true then oz_ref T len n (p + 1) else p
theorem oz_ref_s {T : Nat → Nat} {len : Nat} : ∀ n p, n = len - p → p ≤ len → p ≤ oz_ref T len n p ∧ oz_ref T len n p ≤ len ∧ (∀ i, p ≤ i → i < oz_ref T len n p → oz_isL T i = true) ∧ (oz_ref T len n p < len → oz_isL T (oz_ref T len n p) = false) := by
  intro n
  induction n with
  | zero => intro p hn h; exact ⟨Nat.le_refl _, h, fun i h1 h2 => by change i < p at h2; omega, fun h2 => by change p < len at h2; omega⟩
  | succ n ih =>
    intro p hn h
    unfold oz_ref
    split
    · rename_i c
      obtain ⟨a1, a2, a3, a4⟩ := ih (p + 1) (by omega) (by omega)
      refine ⟨by omega, a2, fun i h1 h2 => ?_, a4⟩
      by_cases ci : i = p
      · rw [ci]; exact c.2
      · exact a3 i (by omega) h2
    · rename_i c
      refine ⟨Nat.le_refl _, h, fun i h1 h2 => by omega, fun h2 => ?_⟩
      cases hz : oz_isL T p with
      | false => rfl
      | true => exact absurd ⟨h2, hz⟩ c
def oz_txl (t : Nat) : Bool := (mj_tx t).all (fun x => decide (97 ≤ x ∧ x ≤ 122))
theorem oz_wd_ref {T : Nat → Nat} {len t p : Nat} (hT : ∀ i, i < len → T i ≤ 255) (hl : oz_txl t = true) (hp : p ≤ len) : oz_wd T len t p = (decide (oz_ref T len (len - p) p = p + (mj_tx t).length) && oz_ok (fun i => decide (nI (T (p + i)) = (mj_tx t).getD i 0)) (mj_tx t).length) := by
  obtain ⟨r1, r2, r3, r4⟩ := oz_ref_s (T := T) (len := len) (len - p) p rfl hp
  generalize oz_ref T len (len - p) p = e at *
  unfold oz_wd
  by_cases c : e = p + (mj_tx t).length
  · rw [← c, decide_eq_true r2, decide_eq_true rfl, Bool.true_and, Bool.true_and]
    have : (decide (e = len) || !decide (97 ≤ T e ∧ T e ≤ 122)) = true := by
      by_cases ce : e = len
      · rw [decide_eq_true ce]; rfl
      · have := r4 (by omega)
        unfold oz_isL at this
        rw [this, decide_eq_false ce]; rfl
    rw [this, Bool.and_true]
  · rw [decide_eq_false c, Bool.false_and]
    cases hz : (decide (p + (mj_tx t).length ≤ len) && (oz_ok (fun i => decide (nI (T (p + i)) = (mj_tx t).getD i 0)) (mj_tx t).length && (decide (p + (mj_tx t).length = len) || !decide (97 ≤ T (p + (mj_tx t).length) ∧ T (p + (mj_tx t).length) ≤ 122)))) with
    | false => rfl
    | true =>
      exfalso
      rw [Bool.and_eq_true, Bool.and_eq_true, oz_ok_t] at hz
      obtain ⟨z1, z2, z3⟩ := hz
      have z1' := of_decide_eq_true z1
      have let1 : ∀ i, i < (mj_tx t).length → oz_isL T (p + i) = true := by
        intro i hi
        have a := of_decide_eq_true (z2 i hi)
        have b : (97 : Int32) ≤ (mj_tx t).getD i 0 ∧ (mj_tx t).getD i 0 ≤ 122 := by
          unfold oz_txl at hl
          rw [List.all_eq_true] at hl
          have hm : (mj_tx t).getD i 0 ∈ mj_tx t := by
            rw [List.getD_eq_getElem?_getD, List.getElem?_eq_getElem hi]
            exact List.getElem_mem hi
          exact of_decide_eq_true (hl _ hm)
        rw [← a, pl_97, pl_122, oz_le (by omega) (by have := hT (p + i) (by omega); omega), oz_le (by have := hT (p + i) (by omega); omega) (by omega)] at b
        exact decide_eq_true b
      have e1 : p + (mj_tx t).length ≤ e := by
        by_cases h : p + (mj_tx t).length ≤ e
        · exact h
        · have h1 := let1 (e - p) (by omega)
          rw [show p + (e - p) = e by omega, r4 (by omega)] at h1
          exact Bool.noConfusion h1
      have h2 := r3 (p + (mj_tx t).length) (by omega) (by omega)
      unfold oz_isL at h2
      rw [h2, decide_eq_false (by omega)] at z3
      exact Bool.noConfusion z3
/-- where the model's text lies -/
def oz_LT (s : lf_S) (T : Nat → Nat) (len : Nat) : Prop := (s.1 389 9 = oz_N ∧ ∀ i, i < len → s.1 394 i = nI (T i)) ∨ (s.1 389 9 = nI 366 ∧ ∀ i, i < len → s.1 390 (366 + i) = nI (T i))
def oz_MX (s : lf_S) (T : Nat → Nat) (len : Nat) (st : Nat ⊕ Nat) : Prop := s.1 389 10 = nI len ∧ len ≤ 400 ∧ (∀ i, i < len → T i ≤ 255) ∧ oz_LT s T len ∧ match st with
  | Sum.inr p => s.1 389 12 = oz_N ∧ ∃ m, m ≤ len ∧ s.1 389 11 = nI m ∧ oz_sb T len m = p
  | Sum.inl q => s.1 389 12 = nI q ∧ q ≤ 400 ∧ ∃ m, m ≤ len ∧ s.1 389 11 = nI m
/-- only the place and the fault are changed -/
def oz_fm (s t : lf_S) : Prop := oz_fr (fun p => p = 389) s t ∧ ∀ j, j ≠ 11 → j ≠ 12 → t.1 389 j = s.1 389 j
theorem oz_fm_rf {s : lf_S} : oz_fm s s := ⟨oz_fr_rf, fun _ _ _ => rfl⟩
theorem oz_fm_tr {s t u : lf_S} (h : oz_fm s t) (k : oz_fm t u) : oz_fm s u := ⟨oz_fr_tr h.1 k.1, fun j h1 h2 => (k.2 j h1 h2).trans (h.2 j h1 h2)⟩
theorem oz_fm_w {s : lf_S} {j : Nat} {v : Int32} (h : j = 11 ∨ j = 12) : oz_fm s (lf_w s 389 j v) := ⟨oz_fr_w rfl, fun i h1 h2 => oz_w_n (by omega)⟩
theorem oz_LT_fm {s t : lf_S} {T : Nat → Nat} {len : Nat} (h : oz_LT s T len) (f : oz_fm s t) : oz_LT t T len := by
  rcases h with ⟨h1, h2⟩ | ⟨h1, h2⟩
  · exact Or.inl ⟨(f.2 9 (by omega) (by omega)).trans h1, fun i hi => by rw [f.1.1 394 (by omega)]; exact h2 i hi⟩
  · exact Or.inr ⟨(f.2 9 (by omega) (by omega)).trans h1, fun i hi => by rw [f.1.1 390 (by omega)]; exact h2 i hi⟩
section
variable {s : lf_S} {T : Nat → Nat} {len : Nat}
theorem m_letter (L : oz_LT s T len) (hl : len ≤ 400) {i : Nat} (hi : i < len) : f_Mod_letter (nI i) s = some (nI (T i)) := by
  unfold f_Mod_letter
  rw [pl_1, oz_neg1]
  rcases L with ⟨h1, h2⟩ | ⟨h1, h2⟩
  · rw [h1, if_pos rfl, oz_ck (by omega) (by omega), h2 i hi]
  · rw [h1, if_neg (of_eq_false (oz_eqm1 (by omega))), nI_add, oz_ck (by omega) (by omega), h2 i hi]
theorem m_skip0 (h1 : s.1 389 10 = nI len) (h2 : len ≤ 400) (h3 : ∀ i, i < len → T i ≤ 255) (L : oz_LT s T len) : ∀ n p fuel, n = len - p → p ≤ len → n < fuel → f_Mod_skip_0 fuel (lf_w s 389 11 (nI p)) = some (lf_w s 389 11 (nI (oz_sb T len p))) := by
  intro n
  induction n with
  | zero =>
    intro p fuel hn hp hf
    obtain ⟨fuel, rfl⟩ : ∃ m, fuel = m + 1 := ⟨fuel - 1, by omega⟩
    rw [oz_sb_st (by omega), f_Mod_skip_0, oz_w_s, oz_w_n (by omega), h1, oz_ile_t (by omega) (by omega)]
  | succ n ih =>
    intro p fuel hn hp hf
    obtain ⟨fuel, rfl⟩ : ∃ m, fuel = m + 1 := ⟨fuel - 1, by omega⟩
    have e := h3 p (by omega)
    rw [f_Mod_skip_0, oz_w_s, oz_w_n (by omega), h1, oz_ile_f (by omega) (by omega), m_letter (oz_LT_fm L (oz_fm_w (Or.inl rfl))) h2 (by omega), Option.bind_some]
    by_cases c : T p = 32
    · rw [if_pos (by rw [c]; rfl), oz_sb_s (by omega) c]
      simp only [lf_lt, pl_1, nI_add, oz_w_w]
      exact ih (p + 1) fuel (by omega) (by omega) (by omega)
    · rw [if_neg (by rw [pl_32, oz_eq (by omega) (by omega)]; exact c), oz_sb_st (fun _ => c)]
theorem oz_sb_sb {m : Nat} : oz_sb T len (oz_sb T len m) = oz_sb T len m := oz_sb_st oz_sb_nb
theorem oz_MX_w {st : Nat ⊕ Nat} {x : Nat} (X : oz_MX s T len st) (hx : x ≤ len) (h : ∀ p, st = Sum.inr p → oz_sb T len x = p) : oz_MX (lf_w s 389 11 (nI x)) T len st := by
  obtain ⟨h1, h2, h3, h4, h5⟩ := X
  refine ⟨(oz_w_n (by omega)).trans h1, h2, h3, oz_LT_fm h4 (oz_fm_w (Or.inl rfl)), ?_⟩
  cases st with
  | inl q => exact ⟨(oz_w_n (by omega)).trans h5.1, h5.2.1, x, hx, oz_w_s⟩
  | inr p => exact ⟨(oz_w_n (by omega)).trans h5.1, x, hx, oz_w_s, h p rfl⟩
theorem m_skip {st : Nat ⊕ Nat} (X : oz_MX s T len st) : ∃ t, f_Mod_skip s = some t ∧ oz_MX t T len st ∧ oz_fm s t ∧ ∀ p, st = Sum.inr p → t.1 389 11 = nI p ∧ p ≤ len ∧ oz_sb T len p = p := by
  have X' := X
  obtain ⟨h1, h2, h3, h4, h5⟩ := X
  obtain ⟨m, hm, hm2, hm3⟩ : ∃ m, m ≤ len ∧ s.1 389 11 = nI m ∧ ∀ p, st = Sum.inr p → oz_sb T len m = p := by
    cases st with
    | inl q =>
      obtain ⟨_, _, m, a, b⟩ := h5
      exact ⟨m, a, b, fun p hp => nomatch hp⟩
    | inr p =>
      obtain ⟨_, m, a, b, c⟩ := h5
      exact ⟨m, a, b, fun p' hp => by cases hp; exact c⟩
  have k := m_skip0 h1 h2 h3 h4 (len - m) m 5000 rfl hm (by omega)
  rw [oz_w_id hm2] at k
  have hs := oz_sb_le (T := T) hm
  refine ⟨_, by unfold f_Mod_skip; rw [k, Option.bind_some], oz_MX_w X' hs.2 (fun p hp => by rw [oz_sb_sb]; exact hm3 p hp), oz_fm_w (Or.inl rfl), fun p hp => ?_⟩
  have e := hm3 p hp
  rw [e] at hs
  exact ⟨by rw [oz_w_s, e], hs.2, by rw [← e]; exact oz_sb_sb⟩
theorem m_wrong {st : Nat ⊕ Nat} (X : oz_MX s T len st) {q : Nat} (hq : q ≤ 400) (h : ∀ p, st = Sum.inr p → q = p) : ∃ t, f_Mod_wrong (nI q) s = some t ∧ oz_MX t T len (oz_flt st) ∧ oz_fm s t := by
  have X' := X
  obtain ⟨h1, h2, h3, h4, h5⟩ := X
  unfold f_Mod_wrong
  rw [pl_1, oz_neg1]
  cases st with
  | inl q' =>
    rw [h5.1, if_neg (of_eq_false (oz_eqm1 (by have := h5.2.1; omega)))]
    exact ⟨s, rfl, X', oz_fm_rf⟩
  | inr p =>
    obtain ⟨g1, m, g2, g3, g4⟩ := h5
    rw [g1, if_pos rfl]
    have e := h p rfl
    refine ⟨_, rfl, ⟨(oz_w_n (by omega)).trans h1, h2, h3, oz_LT_fm h4 (oz_fm_w (Or.inr rfl)), ?_⟩, oz_fm_w (Or.inr rfl)⟩
    show (lf_w s 389 12 (nI q)).1 389 12 = nI p ∧ p ≤ 400 ∧ ∃ m, m ≤ len ∧ (lf_w s 389 12 (nI q)).1 389 11 = nI m
    exact ⟨by rw [oz_w_s, e], by omega, m, g2, (oz_w_n (by omega)).trans g3⟩
theorem m_has {p : Nat} (X : oz_MX s T len (Sum.inr p)) (t : Nat) (hl : oz_txl t = true) (ht : (mj_tx t).length ≤ 20) : ∃ u, f_Mod_has t s = some (oz_wd T len t p, u) ∧ oz_MX u T len (oz_toW T len t (Sum.inr p)) ∧ oz_fm s u ∧ (oz_wd T len t p = false → u.1 389 11 = nI p) := by
  obtain ⟨v, k1, k2, k3, k4⟩ := m_skip X
  obtain ⟨g1, g2, g3⟩ := k4 p rfl
  have k2' := k2
  obtain ⟨h1, h2, h3, h4, h5⟩ := k2
  have ew := oz_wd_ref (t := t) h3 hl g2
  obtain ⟨r1, r2, r3, r4⟩ := oz_ref_s (T := T) (len := len) (len - p) p rfl g2
  have l9 : ∀ n x fuel, n = len - x → x ≤ len → n < fuel → f_Mod_has_9 t fuel (nI x) v = some (nI (oz_ref T len n x), v) := by
    intro n
    induction n with
    | zero =>
      intro x fuel hn hx hf
      obtain ⟨fuel, rfl⟩ : ∃ m, fuel = m + 1 := ⟨fuel - 1, by omega⟩
      rw [f_Mod_has_9, h1, oz_ile_t (by omega) (by omega)]; rfl
    | succ n ih =>
      intro x fuel hn hx hf
      obtain ⟨fuel, rfl⟩ : ∃ m, fuel = m + 1 := ⟨fuel - 1, by omega⟩
      have e := h3 x (by omega)
      unfold oz_ref
      rw [f_Mod_has_9, h1, oz_ile_f (by omega) (by omega), m_letter h4 h2 (by omega), Option.bind_some, pl_97, pl_122, m_isIn (by omega) (by omega) (by omega), Option.bind_some]
      show (if oz_isL T x = true then _ else _) = _
      cases c : oz_isL T x with
      | false => rw [if_neg Bool.noConfusion, if_neg (fun z => Bool.noConfusion z.2)]
      | true =>
        rw [if_pos rfl, if_pos ⟨by omega, rfl⟩]
        simp only [lf_lt, pl_1, nI_add]
        exact ih (x + 1) fuel (by omega) (by omega) (by omega)
  have k9 := l9 (len - p) p 5000 rfl g2 (by omega)
  unfold f_Mod_has
  rw [k1, Option.bind_some]
  simp only [lf_lt]
  rw [g1, k9, Option.bind_some]
  simp only [g1]
  generalize he : oz_ref T len (len - p) p = e at *
  have nf : ∀ b, b = oz_wd T len t p → b = false → ∃ u, some (false, v) = some (oz_wd T len t p, u) ∧ oz_MX u T len (oz_toW T len t (Sum.inr p)) ∧ oz_fm s u ∧ (oz_wd T len t p = false → u.1 389 11 = nI p) := by
    intro b hb hf
    have e2 : oz_wd T len t p = false := by rw [← hb]; exact hf
    have et : oz_toW T len t (Sum.inr p) = Sum.inr p := if_neg (by rw [e2]; exact Bool.noConfusion)
    rw [et, e2]
    exact ⟨v, rfl, k2', k3, fun _ => g1⟩
  rw [oz_sub r1]
  by_cases c : e - p = (mj_tx t).length
  · rw [if_pos (by rw [c])]
    have c' : e = p + (mj_tx t).length := by omega
    rw [decide_eq_true c', Bool.true_and] at ew
    have key := oz_search (N := (mj_tx t).length) (fun f i => f_Mod_has_55 t (nI e) f (nI i) v) (fun i => !decide (nI (T (p + i)) = (mj_tx t).getD i 0)) (Sum.inl v) (fun _ => Sum.inr (false, v)) (by
        intro f
        rw [f_Mod_has_55, oz_ile_t (by omega) (by omega)]) (by
        intro f i hi
        rw [f_Mod_has_55, oz_ile_f hi (by omega), g1, nI_add, m_letter h4 h2 (by omega), Option.bind_some, oz_ck (by omega) (by omega)]
        by_cases ce : nI (T (p + i)) = (mj_tx t).getD i 0
        · rw [if_pos ce, decide_eq_true ce, if_neg (by simp)]
          simp only [lf_lt, pl_1, nI_add]
        · rw [if_neg ce, decide_eq_false ce]; rfl) (mj_tx t).length 0 5000 (by omega) (by omega)
    rw [pl_0, key, Option.bind_some]
    cases hz : oz_fst (fun i => !decide (nI (T (p + i)) = (mj_tx t).getD i 0)) 0 (mj_tx t).length with
    | some j =>
      obtain ⟨z1, _, z2, _⟩ := oz_fst_sp _ _ hz
      have b : oz_ok (fun i => decide (nI (T (p + i)) = (mj_tx t).getD i 0)) (mj_tx t).length = false := by
        cases hb : oz_ok (fun i => decide (nI (T (p + i)) = (mj_tx t).getD i 0)) (mj_tx t).length with
        | false => rfl
        | true =>
          rw [oz_ok_t] at hb
          rw [hb j (by omega)] at z1
          exact Bool.noConfusion z1
      exact nf _ ew.symm b
    | none =>
      have fn : ∀ k i0, oz_fst (fun i => !decide (nI (T (p + i)) = (mj_tx t).getD i 0)) i0 k = none → ∀ j, i0 ≤ j → j < i0 + k → decide (nI (T (p + j)) = (mj_tx t).getD j 0) = true := by
        intro k
        induction k with
        | zero => intro i0 _ j a b; omega
        | succ k ih =>
          intro i0 hh j a b
          unfold oz_fst at hh
          split at hh
          · cases hh
          · rename_i cc
            by_cases cj : j = i0
            · rw [cj]; simpa using cc
            · exact ih (i0 + 1) hh j (by omega) (by omega)
      have b : oz_ok (fun i => decide (nI (T (p + i)) = (mj_tx t).getD i 0)) (mj_tx t).length = true := (oz_ok_t _).2 (fun i hi => fn _ _ hz i (by omega) (by omega))
      rw [b] at ew
      have et : oz_toW T len t (Sum.inr p) = Sum.inr (oz_sb T len (p + (mj_tx t).length)) := if_pos ew
      rw [et, ew]
      have hs := oz_sb_le (T := T) (show p + (mj_tx t).length ≤ len by omega)
      refine ⟨lf_w v 389 11 (nI e), rfl, ?_, oz_fm_tr k3 (oz_fm_w (Or.inl rfl)), fun z => Bool.noConfusion z⟩
      refine ⟨(oz_w_n (by omega)).trans h1, h2, h3, oz_LT_fm h4 (oz_fm_w (Or.inl rfl)), ?_⟩
      show (lf_w v 389 11 (nI e)).1 389 12 = oz_N ∧ ∃ m, m ≤ len ∧ (lf_w v 389 11 (nI e)).1 389 11 = nI m ∧ oz_sb T len m = oz_sb T len (p + (mj_tx t).length)
      exact ⟨(oz_w_n (by omega)).trans h5.1, e, r2, oz_w_s, by rw [c']⟩
  · rw [if_neg (by rw [oz_eq (by omega) (by omega)]; exact c)]
    rw [decide_eq_false (by omega), Bool.false_and] at ew
    exact nf _ ew.symm rfl
end
