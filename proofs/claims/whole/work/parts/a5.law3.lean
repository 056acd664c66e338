/-! ===== the law's text, the model's reading; what code reckons ===== -/
def oz_jv (x : Nat) (v w : Int32) : Int32 := if x = 1011 then v + w else if x = 1012 then (if w ≤ v then 0 else 1) else if x = 1013 then (if v ≤ w then 0 else 1) else if x = 1014 then v &&& w else v ||| w
def oz_st (g : Nat → Int32) (x : Nat) (z : List Int32) : Option (List Int32) := if x < 1010 then (if z.length < 24 then some (g x :: z) else none) else if x = 1010 then (match z with
    | v :: r => some ((1 - v) :: r)
    | [] => none) else (match z with
    | w :: v :: r => some (oz_jv x v w :: r)
    | _ => none)
def oz_rn (g : Nat → Int32) : List Nat → List Int32 → Option (List Int32)
  | [], z => some z
  | x :: c, z => (oz_st g x z).bind (oz_rn g c)
def oz_one (g : Nat → Int32) (B : Nat) (c : List Nat) (v : Int32) : Prop := ∀ z, z.length ≤ B → oz_rn g c z = some (v :: z)
theorem oz_rn_app {g : Nat → Int32} : ∀ (c d : List Nat) (z : List Int32), oz_rn g (c ++ d) z = (oz_rn g c z).bind (oz_rn g d) := by
  intro c
  induction c with
  | nil => intro d z; rfl
  | cons x c ih =>
    intro d z
    show (oz_st g x z).bind (oz_rn g (c ++ d)) = ((oz_st g x z).bind (oz_rn g c)).bind (oz_rn g d)
    cases oz_st g x z with
    | none => rfl
    | some y => exact ih d y
theorem oz_one_le {g : Nat → Int32} {B D : Nat} {c : List Nat} {v : Int32} (h : oz_one g B c v) (hd : D ≤ B) : oz_one g D c v := fun z hz => h z (by omega)
theorem oz_one_1 {g : Nat → Int32} {x B : Nat} (hx : x < 1010) (hB : B < 24) : oz_one g B [x] (g x) := by
  intro z hz
  show (oz_st g x z).bind (oz_rn g []) = _
  unfold oz_st
  rw [if_pos hx, if_pos (by omega)]
  rfl
/-- two joined -/
theorem oz_one_2 {g : Nat → Int32} {x B : Nat} {c d : List Nat} {v w : Int32} (hx : 1010 < x) (h1 : oz_one g B c v) (h2 : oz_one g (B + 1) d w) : oz_one g B (c ++ (d ++ [x])) (oz_jv x v w) := by
  intro z hz
  rw [oz_rn_app, h1 z (by omega), Option.bind_some, oz_rn_app, h2 (v :: z) (by show z.length + 1 ≤ B + 1; omega), Option.bind_some]
  show (oz_st g x (w :: v :: z)).bind (oz_rn g []) = _
  unfold oz_st
  rw [if_neg (by omega), if_neg (by omega)]
  rfl
theorem oz_one_not {g : Nat → Int32} {B : Nat} {c : List Nat} {v : Int32} (h1 : oz_one g B c v) : oz_one g B (c ++ [1010]) (1 - v) := by
  intro z hz
  rw [oz_rn_app, h1 z hz, Option.bind_some]
  rfl
/-- the values that the model sees -/
def oz_gm (s : lf_S) : Nat → Int32 := fun x => if x < 1000 then nI x else if x = 1007 then (if s.1 390 10 = 1 then 1 else 0) else if x = 1008 then (if s.1 395 2 < 2 then 0 else 1) else if x = 1009 then (if s.1 395 3 ≤ 50 then 0 else 1) else s.1 395 (x - 1000)
theorem oz_gm_fm {s t : lf_S} (f : oz_fm s t) : oz_gm t = oz_gm s := by
  unfold oz_gm
  rw [f.1.1 390 (by omega), f.1.1 395 (by omega)]
def oz_MY (s : lf_S) (T : Nat → Nat) (len d : Nat) (st : Nat ⊕ Nat) : Prop := s.1 389 10 = nI len ∧ len ≤ 400 ∧ (∀ i, i < len → T i ≤ 255) ∧ oz_LT s T len ∧ match st with
  | Sum.inr p => s.1 389 12 = oz_N ∧ ∃ m, m ≤ len ∧ s.1 389 11 = nI m ∧ oz_sb T len m = p
  | Sum.inl q => s.1 389 12 = nI q ∧ q ≤ 400 ∧ ∃ m, m ≤ len + d ∧ s.1 389 11 = nI m
section
variable {s : lf_S} {T : Nat → Nat} {len : Nat}
theorem oz_MY_of {d : Nat} {st : Nat ⊕ Nat} (X : oz_MX s T len st) : oz_MY s T len d st := by
  obtain ⟨h1, h2, h3, h4, h5⟩ := X
  refine ⟨h1, h2, h3, h4, ?_⟩
  cases st with
  | inl q =>
    obtain ⟨g1, g2, m, g3, g4⟩ := h5
    exact ⟨g1, g2, m, by omega, g4⟩
  | inr p => exact h5
theorem oz_MY_r {d p : Nat} (X : oz_MY s T len d (Sum.inr p)) : oz_MX s T len (Sum.inr p) := X
theorem oz_MY_le {d e : Nat} {st : Nat ⊕ Nat} (X : oz_MY s T len d st) (h : d ≤ e) : oz_MY s T len e st := by
  obtain ⟨h1, h2, h3, h4, h5⟩ := X
  refine ⟨h1, h2, h3, h4, ?_⟩
  cases st with
  | inl q =>
    obtain ⟨g1, g2, m, g3, g4⟩ := h5
    exact ⟨g1, g2, m, by omega, g4⟩
  | inr p => exact h5
theorem oz_atY {d q : Nat} (X : oz_MY s T len d (Sum.inl q)) : ¬ s.1 389 12 = oz_N := by
  have h5 := X.2.2.2.2
  rw [h5.1]
  exact of_eq_false (oz_eqm1 (by have := h5.2.1; omega))
theorem oz_MY_up {d q : Nat} (X : oz_MY s T len d (Sum.inl q)) : oz_MY (lf_w s 389 11 (s.1 389 11 + 1)) T len (d + 1) (Sum.inl q) := by
  obtain ⟨h1, h2, h3, h4, g1, g2, m, g3, g4⟩ := X
  refine ⟨(oz_w_n (by omega)).trans h1, h2, h3, oz_LT_fm h4 (oz_fm_w (Or.inl rfl)), ?_⟩
  show (lf_w s 389 11 (s.1 389 11 + 1)).1 389 12 = nI q ∧ q ≤ 400 ∧ ∃ m, m ≤ len + (d + 1) ∧ (lf_w s 389 11 (s.1 389 11 + 1)).1 389 11 = nI m
  exact ⟨(oz_w_n (by omega)).trans g1, g2, m + 1, by omega, by rw [oz_w_s, g4, pl_1, nI_add]⟩
theorem oz_MY_13 {d : Nat} {v : Int32} {st : Nat ⊕ Nat} (X : oz_MY s T len d st) : oz_MY (lf_w s 389 13 v) T len d st := by
  obtain ⟨h1, h2, h3, h4, h5⟩ := X
  refine ⟨(oz_w_n (by omega)).trans h1, h2, h3, ?_, ?_⟩
  · rcases h4 with ⟨g1, g2⟩ | ⟨g1, g2⟩
    · exact Or.inl ⟨(oz_w_n (by omega)).trans g1, fun i hi => by rw [oz_w_o (by omega)]; exact g2 i hi⟩
    · exact Or.inr ⟨(oz_w_n (by omega)).trans g1, fun i hi => by rw [oz_w_o (by omega)]; exact g2 i hi⟩
  · cases st with
    | inl q =>
      obtain ⟨g1, g2, m, g3, g4⟩ := h5
      exact ⟨(oz_w_n (by omega)).trans g1, g2, m, g3, (oz_w_n (by omega)).trans g4⟩
    | inr p =>
      obtain ⟨g1, m, g3, g4, g5⟩ := h5
      exact ⟨(oz_w_n (by omega)).trans g1, m, g3, (oz_w_n (by omega)).trans g4, g5⟩
theorem oz_MX_13 {v : Int32} {p : Nat} (X : oz_MX s T len (Sum.inr p)) : oz_MX (lf_w s 389 13 v) T len (Sum.inr p) := oz_MY_r (d := 0) (oz_MY_13 (oz_MY_of X))
/-- only the place, the fault and the depth are changed -/
def oz_fdd (s t : lf_S) : Prop := oz_fr (fun p => p = 389) s t ∧ ∀ j, j ≠ 11 → j ≠ 12 → j ≠ 13 → t.1 389 j = s.1 389 j
theorem oz_fd_of {s t : lf_S} (h : oz_fm s t) : oz_fdd s t := ⟨h.1, fun j h1 h2 _ => h.2 j h1 h2⟩
theorem oz_fd_tr {s t u : lf_S} (h : oz_fdd s t) (k : oz_fdd t u) : oz_fdd s u := ⟨oz_fr_tr h.1 k.1, fun j h1 h2 h3 => (k.2 j h1 h2 h3).trans (h.2 j h1 h2 h3)⟩
theorem oz_fd_w {s : lf_S} {j : Nat} {v : Int32} (h : j = 11 ∨ j = 12 ∨ j = 13) : oz_fdd s (lf_w s 389 j v) := ⟨oz_fr_w rfl, fun i h1 h2 h3 => oz_w_n (by omega)⟩
theorem oz_fm_fd {s t : lf_S} (h : oz_fdd s t) (h13 : t.1 389 13 = s.1 389 13) : oz_fm s t := ⟨h.1, fun j h1 h2 => by
  by_cases c : j = 13
  · rw [c]; exact h13
  · exact h.2 j h1 h2 c⟩
theorem oz_gm_fd {s t : lf_S} (f : oz_fdd s t) : oz_gm t = oz_gm s := by
  unfold oz_gm
  rw [f.1.1 390 (by omega), f.1.1 395 (by omega)]
theorem oz_prt_l {q : Nat} : (oz_prt T len (Sum.inl q)).2 = Sum.inl q := rfl
theorem oz_smL_l {q : Nat} : ∀ k, oz_smL T len k (Sum.inl q) = ([], Sum.inl q) := by
  intro k
  cases k <;> rfl
theorem oz_jnL_l {w x q : Nat} {A : (Nat ⊕ Nat) → List Nat × (Nat ⊕ Nat)} : ∀ k, oz_jnL T len w x A k (Sum.inl q) = ([], Sum.inl q) := by
  intro k
  cases k <;> rfl
/-- a row of words, as the model asks for a fact -/
theorem m_fact {p t c k : Nat} (X : oz_MX s T len (Sum.inr p)) (hl : oz_txl t = true) (ht : (mj_tx t).length ≤ 20) (hc : mj_tx t = mj_tx c) : (oz_wd T len c p = true → ∃ u, f_Mod_has t s = some (true, u) ∧ oz_MX u T len (oz_toW T len c (Sum.inr p)) ∧ oz_fm s u) ∧ (oz_wd T len c p = false → ∃ u, f_Mod_has t s = some (false, u) ∧ oz_MX u T len (Sum.inr p) ∧ oz_fm s u ∧ u.1 389 11 = nI p) := by
  obtain ⟨v, k1, k2, k3, k4⟩ := m_has X t hl ht
  rw [oz_wd_cg hc] at k1 k4
  rw [oz_toW_cg hc] at k2
  refine ⟨fun h => ?_, fun h => ?_⟩
  · rw [h] at k1
    exact ⟨v, k1, k2, k3⟩
  · rw [h] at k1
    rw [oz_toW_f (show oz_isW T len c (Sum.inr p) = false from h)] at k2
    exact ⟨v, k1, k2, k3, k4 h⟩
def oz_pch (s : lf_S) : Option (Int32 × lf_S) := (f_Mod_has 13 s).bind (fun p35 => (if p35.1 = true then lf_lt (0 : Int32) (fun y63 => (if y63 = (-1 : Int32) then (f_Mod_wrong (p35.2.1 389 11) p35.2).bind (fun p65 => some ((0 : Int32), p65)) else lf_ck y63 7 (fun k64 => some ((p35.2.1 395 k64), p35.2)))) else (f_Mod_has 22 p35.2).bind (fun p36 => (if p36.1 = true then lf_lt (1 : Int32) (fun y60 => (if y60 = (-1 : Int32) then (f_Mod_wrong (p36.2.1 389 11) p36.2).bind (fun p62 => some ((0 : Int32), p62)) else lf_ck y60 7 (fun k61 => some ((p36.2.1 395 k61), p36.2)))) else (f_Mod_has 3 p36.2).bind (fun p37 => (if p37.1 = true then lf_lt (2 : Int32) (fun y57 => (if y57 = (-1 : Int32) then (f_Mod_wrong (p37.2.1 389 11) p37.2).bind (fun p59 => some ((0 : Int32), p59)) else lf_ck y57 7 (fun k58 => some ((p37.2.1 395 k58), p37.2)))) else (f_Mod_has 4 p37.2).bind (fun p38 => (if p38.1 = true then lf_lt (3 : Int32) (fun y54 => (if y54 = (-1 : Int32) then (f_Mod_wrong (p38.2.1 389 11) p38.2).bind (fun p56 => some ((0 : Int32), p56)) else lf_ck y54 7 (fun k55 => some ((p38.2.1 395 k55), p38.2)))) else (f_Mod_has 5 p38.2).bind (fun p39 => (if p39.1 = true then lf_lt (4 : Int32) (fun y51 => (if y51 = (-1 : Int32) then (f_Mod_wrong (p39.2.1 389 11) p39.2).bind (fun p53 => some ((0 : Int32), p53)) else lf_ck y51 7 (fun k52 => some ((p39.2.1 395 k52), p39.2)))) else (f_Mod_has 19 p39.2).bind (fun p40 => (if p40.1 = true then lf_lt (5 : Int32) (fun y48 => (if y48 = (-1 : Int32) then (f_Mod_wrong (p40.2.1 389 11) p40.2).bind (fun p50 => some ((0 : Int32), p50)) else lf_ck y48 7 (fun k49 => some ((p40.2.1 395 k49), p40.2)))) else (f_Mod_has 20 p40.2).bind (fun p41 => (if p41.1 = true then lf_lt (6 : Int32) (fun y45 => (if y45 = (-1 : Int32) then (f_Mod_wrong (p41.2.1 389 11) p41.2).bind (fun p47 => some ((0 : Int32), p47)) else lf_ck y45 7 (fun k46 => some ((p41.2.1 395 k46), p41.2)))) else lf_lt (-1 : Int32) (fun y42 => (if y42 = (-1 : Int32) then (f_Mod_wrong (p41.2.1 389 11) p41.2).bind (fun p44 => some ((0 : Int32), p44)) else lf_ck y42 7 (fun k43 => some ((p41.2.1 395 k43), p41.2))))))))))))))))))
theorem oz_part0 : f_Mod_part s = (if (s.1 389 12) = (-1 : Int32) then (f_Mod_skip s).bind (fun p1 => (if (p1.1 389 10) ≤ (p1.1 389 11) then oz_pch p1 else (f_Mod_letter (p1.1 389 11) p1).bind (fun p33 => (f_Mod_isIn p33 (48 : Int32) (57 : Int32)).bind (fun p34 => (if p34 = true then (f_Mod_figures (0 : Int32) (999 : Int32) p1).bind (fun p66 => some (p66.1, p66.2)) else oz_pch p1))))) else some ((0 : Int32), s)) := rfl
theorem oz_gm_f {k : Nat} (hk : k < 7) : oz_gm s (1000 + k) = s.1 395 k := by
  unfold oz_gm
  rw [if_neg (by omega), if_neg (by omega), if_neg (by omega), if_neg (by omega), show 1000 + k - 1000 = k by omega]
/-- what a part leaves -/
def oz_PR (T : Nat → Nat) (len : Nat) (s : lf_S) (f : Option (Int32 × lf_S)) (x : Nat × (Nat ⊕ Nat)) : Prop := ∃ v u, f = some (v, u) ∧ oz_MX u T len x.2 ∧ oz_fm s u ∧ (∀ p', x.2 = Sum.inr p' → v = oz_gm s x.1 ∧ x.1 < 1010)
theorem oz_PR_tr {t : lf_S} {f : Option (Int32 × lf_S)} {x : Nat × (Nat ⊕ Nat)} (h : oz_fm s t) (k : oz_PR T len t f x) : oz_PR T len s f x := by
  obtain ⟨v, u, h1, h2, h3, h4⟩ := k
  exact ⟨v, u, h1, h2, oz_fm_tr h h3, fun p' hp' => by rw [← oz_gm_fm h]; exact h4 p' hp'⟩
theorem oz_lt_k {α : Type} {k : Nat} {A : Int32 → Option α} {B : Nat → Option α} (hk : k < 7) : lf_lt (nI k) (fun y => if y = oz_N then A y else lf_ck y 7 B) = B k := by
  unfold lf_lt
  show (if nI k = oz_N then A (nI k) else lf_ck (nI k) 7 B) = B k
  rw [if_neg (of_eq_false (oz_eqm1 (by omega))), oz_ck hk (by omega)]
theorem m_pch {p : Nat} (X : oz_MX s T len (Sum.inr p)) (hd : p < len → oz_dg T p = false) : oz_PR T len s (oz_pch s) (oz_prt T len (Sum.inr p)) := by
  have hT := X.2.2.1
  have hp := oz_MX_p X
  have l400 := X.2.1
  have ex : ∀ t u, oz_txl t = true → oz_txl u = true → mj_tx t ≠ mj_tx u → oz_wd T len t p = true → oz_wd T len u p = false := fun t u ht hu hne h => by
    cases hz : oz_wd T len u p with
    | false => rfl
    | true => exact absurd (oz_wd_ex hT ht hu hp h hz) hne
  have fin : ∀ (u : lf_S) c k, k < 7 → oz_MX u T len (oz_toW T len c (Sum.inr p)) → oz_fm s u → oz_PR T len s (some ((u.1 395 k), u)) (1000 + k, oz_toW T len c (Sum.inr p)) := fun u c k hk Xu fu => ⟨_, u, rfl, Xu, fu, fun p' hp' => ⟨by rw [oz_gm_f hk, fu.1.1 395 (by omega)], by show 1000 + k < 1010; omega⟩⟩
  unfold oz_pch oz_prt
  rw [pl_1, oz_neg1, pl_0, pl_2, pl_3, pl_4, pl_5, pl_6]
  show oz_PR T len s _ (if oz_wd T len 64 p = true then _ else if oz_wd T len 65 p = true then _ else if oz_wd T len 66 p = true then _ else if oz_wd T len 67 p = true then _ else if oz_wd T len 68 p = true then _ else if oz_wd T len 69 p = true then _ else if oz_wd T len 70 p = true then _ else _)
  have w0 := m_fact X (t := 13) (c := 64) (k := 0) (by decide +kernel) (by decide +kernel) (by decide +kernel)
  by_cases c0 : oz_wd T len 64 p = true
  · obtain ⟨u, k1, k2, k3⟩ := w0.1 c0
    rw [oz_tkt k1, if_pos c0]
    exact (oz_lt_k (k := 0) (by omega)) ▸ fin u 64 0 (by omega) k2 k3
  obtain ⟨u0, k0, x0, f0, y0⟩ := w0.2 (by cases h : oz_wd T len 64 p with
    | false => rfl
    | true => exact absurd h c0)
  rw [oz_tkf k0, if_neg c0]
  have g0 : oz_fm s u0 := f0
  have w1 := m_fact x0 (t := 22) (c := 65) (k := 0) (by decide +kernel) (by decide +kernel) (by decide +kernel)
  by_cases c1 : oz_wd T len 65 p = true
  · obtain ⟨u, k1, k2, k3⟩ := w1.1 c1
    rw [oz_tkt k1, if_pos c1]
    exact (oz_lt_k (k := 1) (by omega)) ▸ fin u 65 1 (by omega) k2 (oz_fm_tr g0 k3)
  obtain ⟨u1, k1, x1, f1, y1⟩ := w1.2 (by cases h : oz_wd T len 65 p with
    | false => rfl
    | true => exact absurd h c1)
  rw [oz_tkf k1, if_neg c1]
  have g1 : oz_fm s u1 := oz_fm_tr g0 f1
  have w2 := m_fact x1 (t := 3) (c := 66) (k := 0) (by decide +kernel) (by decide +kernel) (by decide +kernel)
  by_cases c2 : oz_wd T len 66 p = true
  · obtain ⟨u, k1, k2, k3⟩ := w2.1 c2
    rw [oz_tkt k1, if_pos c2]
    exact (oz_lt_k (k := 2) (by omega)) ▸ fin u 66 2 (by omega) k2 (oz_fm_tr g1 k3)
  obtain ⟨u2, k2, x2, f2, y2⟩ := w2.2 (by cases h : oz_wd T len 66 p with
    | false => rfl
    | true => exact absurd h c2)
  rw [oz_tkf k2, if_neg c2]
  have g2 : oz_fm s u2 := oz_fm_tr g1 f2
  have w3 := m_fact x2 (t := 4) (c := 67) (k := 0) (by decide +kernel) (by decide +kernel) (by decide +kernel)
  by_cases c3 : oz_wd T len 67 p = true
  · obtain ⟨u, k1, k2, k3⟩ := w3.1 c3
    rw [oz_tkt k1, if_pos c3]
    exact (oz_lt_k (k := 3) (by omega)) ▸ fin u 67 3 (by omega) k2 (oz_fm_tr g2 k3)
  obtain ⟨u3, k3, x3, f3, y3⟩ := w3.2 (by cases h : oz_wd T len 67 p with
    | false => rfl
    | true => exact absurd h c3)
  rw [oz_tkf k3, if_neg c3]
  have g3 : oz_fm s u3 := oz_fm_tr g2 f3
  have w4 := m_fact x3 (t := 5) (c := 68) (k := 0) (by decide +kernel) (by decide +kernel) (by decide +kernel)
  by_cases c4 : oz_wd T len 68 p = true
  · obtain ⟨u, k1, k2, k3⟩ := w4.1 c4
    rw [oz_tkt k1, if_pos c4]
    exact (oz_lt_k (k := 4) (by omega)) ▸ fin u 68 4 (by omega) k2 (oz_fm_tr g3 k3)
  obtain ⟨u4, k4, x4, f4, y4⟩ := w4.2 (by cases h : oz_wd T len 68 p with
    | false => rfl
    | true => exact absurd h c4)
  rw [oz_tkf k4, if_neg c4]
  have g4 : oz_fm s u4 := oz_fm_tr g3 f4
  have w5 := m_fact x4 (t := 19) (c := 69) (k := 0) (by decide +kernel) (by decide +kernel) (by decide +kernel)
  by_cases c5 : oz_wd T len 69 p = true
  · obtain ⟨u, k1, k2, k3⟩ := w5.1 c5
    rw [oz_tkt k1, if_pos c5]
    exact (oz_lt_k (k := 5) (by omega)) ▸ fin u 69 5 (by omega) k2 (oz_fm_tr g4 k3)
  obtain ⟨u5, k5, x5, f5, y5⟩ := w5.2 (by cases h : oz_wd T len 69 p with
    | false => rfl
    | true => exact absurd h c5)
  rw [oz_tkf k5, if_neg c5]
  have g5 : oz_fm s u5 := oz_fm_tr g4 f5
  have w6 := m_fact x5 (t := 20) (c := 70) (k := 0) (by decide +kernel) (by decide +kernel) (by decide +kernel)
  by_cases c6 : oz_wd T len 70 p = true
  · obtain ⟨u, k1, k2, k3⟩ := w6.1 c6
    rw [oz_tkt k1, if_pos c6]
    exact (oz_lt_k (k := 6) (by omega)) ▸ fin u 70 6 (by omega) k2 (oz_fm_tr g5 k3)
  obtain ⟨u6, k6, x6, f6, y6⟩ := w6.2 (by cases h : oz_wd T len 70 p with
    | false => rfl
    | true => exact absurd h c6)
  rw [oz_tkf k6, if_neg c6]
  have g6 : oz_fm s u6 := oz_fm_tr g5 f6
  have e0 : oz_nm1 T len 0 (nI 999) p = false := by
    unfold oz_nm1
    refine decide_eq_false (fun z => z.1 ?_)
    show (if p < len ∧ oz_dg T p = true then _ else (p, 0) : Nat × Nat).1 = p
    by_cases c : p < len
    · rw [hd c, if_neg (fun z => Bool.noConfusion z.2)]
    · rw [if_neg (fun z => c z.1)]
  have e1 : oz_nmS T len 0 (nI 999) (Sum.inr p) = Sum.inl p := by
    show (if oz_nm1 T len 0 (nI 999) p = true then _ else Sum.inl p) = Sum.inl p
    rw [e0, if_neg Bool.noConfusion]
  rw [e1]
  obtain ⟨u, h1, h2, h3⟩ := m_wrongQ x6 (q := p) (by omega)
  unfold lf_lt
  try dsimp only
  rw [if_pos (show oz_N = oz_N from rfl), y6, h1, Option.bind_some]
  exact ⟨_, u, rfl, h2, oz_fm_tr g6 h3, fun p' hp' => nomatch hp'⟩
theorem m_part {st : Nat ⊕ Nat} (X : oz_MX s T len st) : oz_PR T len s (f_Mod_part s) (oz_prt T len st) := by
  rw [oz_part0, pl_1, oz_neg1]
  cases st with
  | inl q =>
    rw [if_neg (oz_atl X)]
    exact ⟨_, s, rfl, X, oz_fm_rf, fun p' hp' => nomatch hp'⟩
  | inr p =>
    rw [if_pos (oz_at X)]
    obtain ⟨t, k1, k2, k3, k4⟩ := m_skip X
    obtain ⟨g1, g2, g3⟩ := k4 p rfl
    have l400 := X.2.1
    rw [k1, Option.bind_some, k2.1, g1]
    by_cases c : len ≤ p
    · rw [oz_ile_t c (by omega)]
      exact oz_PR_tr k3 (m_pch k2 (fun z => by omega))
    · have e := k2.2.2.1 p (by omega)
      rw [oz_ile_f (by omega) (by omega), m_letter k2.2.2.2.1 k2.2.1 (by omega), Option.bind_some, pl_48, pl_57, m_isIn (by omega) (by omega) (by omega), Option.bind_some]
      by_cases cd : 48 ≤ T p ∧ T p ≤ 57
      · rw [decide_eq_true cd, if_pos (show true = true from rfl), pl_0, pl_999]
        obtain ⟨v, u, l1, l2, l3, l4⟩ := m_figures k2 (lo := 0) (hi := nI 999) (by omega)
        have nw : ∀ t, oz_txl t = true → 0 < (mj_tx t).length → oz_isW T len t (Sum.inr p) = false := fun t h1 h2 => oz_wd_dg h1 h2 cd
        have ep : oz_prt T len (Sum.inr p) = (oz_nmV T len 0 (nI 999) (Sum.inr p), oz_nmS T len 0 (nI 999) (Sum.inr p)) := by
          unfold oz_prt
          rw [nw 64 (by decide +kernel) (by decide +kernel), nw 65 (by decide +kernel) (by decide +kernel), nw 66 (by decide +kernel) (by decide +kernel), nw 67 (by decide +kernel) (by decide +kernel), nw 68 (by decide +kernel) (by decide +kernel), nw 69 (by decide +kernel) (by decide +kernel), nw 70 (by decide +kernel) (by decide +kernel)]
          simp only [Bool.false_eq_true, if_false]
        have b := oz_nmV_le (T := T) (len := len) (lo := 0) (h := 999) (st := Sum.inr p) (by omega) (by omega) (oz_MX_l k2)
        rw [l1, Option.bind_some, ep]
        refine ⟨v, u, rfl, l2, oz_fm_tr k3 l3, fun p' hp' => ⟨?_, by show oz_nmV T len 0 (nI 999) (Sum.inr p) < 1010; omega⟩⟩
        rw [l4 p' hp']
        unfold oz_gm
        rw [if_pos (by show oz_nmV T len 0 (nI 999) (Sum.inr p) < 1000; omega)]
      · rw [decide_eq_false cd, if_neg (show ¬ (false = true) from Bool.noConfusion)]
        exact oz_PR_tr k3 (m_pch k2 (fun z => decide_eq_false cd))
theorem oz_MX_12 {st : Nat ⊕ Nat} (X : oz_MX s T len st) : (s.1 389 12 = oz_N) = (st.isRight = true) := by
  cases st with
  | inl q => exact propext ⟨fun h => absurd h (oz_atl X), fun h => Bool.noConfusion h⟩
  | inr p => exact propext ⟨fun _ => rfl, fun _ => oz_at X⟩
theorem m_smL : ∀ k (s : lf_S) (v : Int32) c st fuel, oz_MX s T len st → oz_mu len st < k → k < fuel → (st.isRight = true → oz_one (oz_gm s) 22 c v) → ∃ w u, f_Mod_sum_5 fuel v s = some (w, u) ∧ oz_MX u T len (oz_smL T len k st).2 ∧ oz_fm s u ∧ ((oz_smL T len k st).2.isRight = true → oz_one (oz_gm s) 22 (c ++ (oz_smL T len k st).1) w) := by
  intro k
  induction k with
  | zero => intro s v c st fuel X h; omega
  | succ k ih =>
    intro s v c st fuel X h2 hf hv
    obtain ⟨fuel, rfl⟩ : ∃ m, fuel = m + 1 := ⟨fuel - 1, by omega⟩
    rw [f_Mod_sum_5, pl_1, oz_neg1]
    cases st with
    | inl q =>
      rw [if_neg (oz_atl X), oz_smL_l]
      exact ⟨v, s, rfl, X, oz_fm_rf, fun h => Bool.noConfusion h⟩
    | inr p =>
      rw [if_pos (oz_at X), pl_43]
      unfold oz_smL
      obtain ⟨u1, k1, k2, k3, k4⟩ := m_isSign X (c := 43) (by omega)
      by_cases cg : oz_isG T len 43 (Sum.inr p) = true
      · rw [cg] at k1
        rw [oz_tkt k1, if_pos cg]
        have cg' : p < len ∧ T p = 43 := of_decide_eq_true cg
        have X2 := oz_MX_up1 k2 k4 cg'.1
        have et : oz_toG T len 43 (Sum.inr p) = Sum.inr (oz_sb T len (p + 1)) := if_pos cg'
        have f2 : oz_fm s (lf_w u1 389 11 (nI (p + 1))) := oz_fm_tr k3 (oz_fm_w (Or.inl rfl))
        obtain ⟨w, u3, l1, l2, l3, l4⟩ := m_part X2
        have f3 := oz_fm_tr f2 l3
        rw [et]
        have mu1 := oz_mu_G cg
        rw [et] at mu1
        have mu2 := (oz_ln_prt (T := T) (len := len) (st := Sum.inr (oz_sb T len (p + 1))) (oz_MX_l X2)).1
        have one : (oz_prt T len (Sum.inr (oz_sb T len (p + 1)))).2.isRight = true → oz_one (oz_gm u3) 22 (c ++ ([(oz_prt T len (Sum.inr (oz_sb T len (p + 1)))).1] ++ [1011])) (v + w) := by
          intro hr
          obtain ⟨p', hp'⟩ : ∃ p', (oz_prt T len (Sum.inr (oz_sb T len (p + 1)))).2 = Sum.inr p' := by
            cases h : (oz_prt T len (Sum.inr (oz_sb T len (p + 1)))).2 with
            | inl q => rw [h] at hr; exact Bool.noConfusion hr
            | inr p' => exact ⟨p', rfl⟩
          obtain ⟨e1, e2⟩ := l4 p' hp'
          rw [oz_gm_fm f3, e1, oz_gm_fm f2]
          intro z hz
          rw [oz_rn_app, hv rfl z hz, Option.bind_some, oz_rn_app, oz_one_1 (g := oz_gm s) (B := 23) e2 (by omega) (v :: z) (by show z.length + 1 ≤ 23; omega), Option.bind_some]
          rfl
        obtain ⟨w2, u, j1, j2, j3, j4⟩ := ih u3 (v + w) _ _ fuel l2 (by omega) (by omega) one
        refine ⟨w2, u, ?_, j2, oz_fm_tr f3 j3, fun hr => ?_⟩
        · simp only [lf_lt]
          rw [k4, nI_add, l1, Option.bind_some]
          exact j1
        · have := j4 hr
          rw [oz_gm_fm f3] at this
          have e : c ++ ([(oz_prt T len (Sum.inr (oz_sb T len (p + 1)))).1] ++ [1011]) ++ (oz_smL T len k (oz_prt T len (Sum.inr (oz_sb T len (p + 1)))).2).1 = c ++ ((oz_prt T len (Sum.inr (oz_sb T len (p + 1)))).1 :: 1011 :: (oz_smL T len k (oz_prt T len (Sum.inr (oz_sb T len (p + 1)))).2).1) := by
            rw [List.append_assoc]; rfl
          rw [e] at this
          exact this
      · have d : oz_isG T len 43 (Sum.inr p) = false := by
          cases h : oz_isG T len 43 (Sum.inr p) with
          | false => rfl
          | true => exact absurd h cg
        rw [d] at k1
        rw [oz_tkf k1, if_neg cg]
        exact ⟨v, u1, rfl, k2, k3, fun h => by show oz_one (oz_gm s) 22 (c ++ []) v; rw [List.append_nil]; exact hv rfl⟩
theorem m_sum {st : Nat ⊕ Nat} (X : oz_MX s T len st) : ∃ w u, f_Mod_sum s = some (w, u) ∧ oz_MX u T len (oz_smP T len st).2 ∧ oz_fm s u ∧ ((oz_smP T len st).2.isRight = true → oz_one (oz_gm s) 22 (oz_smP T len st).1 w) := by
  obtain ⟨w, u3, l1, l2, l3, l4⟩ := m_part X
  have mu := oz_mu_le (st := (oz_prt T len st).2) X.2.1
  obtain ⟨w2, u, j1, j2, j3, j4⟩ := m_smL 401 u3 w [(oz_prt T len st).1] _ 5000 l2 (by omega) (by omega) (fun hr => by
    obtain ⟨p', hp'⟩ : ∃ p', (oz_prt T len st).2 = Sum.inr p' := by
      cases h : (oz_prt T len st).2 with
      | inl q => rw [h] at hr; exact Bool.noConfusion hr
      | inr p' => exact ⟨p', rfl⟩
    obtain ⟨e1, e2⟩ := l4 p' hp'
    rw [oz_gm_fm l3, e1]
    exact oz_one_1 e2 (by omega))
  refine ⟨w2, u, ?_, j2, oz_fm_tr l3 j3, fun hr => ?_⟩
  · unfold f_Mod_sum
    rw [l1, Option.bind_some]
    simp only [lf_lt]
    rw [j1, Option.bind_some]
  · have := j4 hr
    rw [oz_gm_fm l3] at this
    exact this
/-- a condition read by the model -/
def oz_bi (b : Bool) : Int32 := if b = true then 1 else 0
def oz_QR (T : Nat → Nat) (len d B : Nat) (s : lf_S) (f : Option (Bool × lf_S)) (x : List Nat × (Nat ⊕ Nat)) : Prop := ∃ v u, f = some (v, u) ∧ oz_MY u T len d x.2 ∧ oz_fm s u ∧ (x.2.isRight = true → oz_one (oz_gm s) B x.1 (oz_bi v))
theorem oz_QR_tr {t : lf_S} {d B : Nat} {f : Option (Bool × lf_S)} {x : List Nat × (Nat ⊕ Nat)} (h : oz_fm s t) (k : oz_QR T len d B t f x) : oz_QR T len d B s f x := by
  obtain ⟨v, u, h1, h2, h3, h4⟩ := k
  exact ⟨v, u, h1, h2, oz_fm_tr h h3, fun hr => by rw [← oz_gm_fm h]; exact h4 hr⟩
theorem m_cmp {p : Nat} (X : oz_MX s T len (Sum.inr p)) : oz_QR T len 0 21 s ((f_Mod_sum s).bind (fun p4 => lf_lt p4.1 (fun y5 => (if (p4.2.1 389 12) = (-1 : Int32) then (f_Mod_isSign (60 : Int32) p4.2).bind (fun p6 => lf_lt p6.1 (fun e7 => (if e7 = true then lf_lt (lf_w p6.2 389 11 ((p6.2.1 389 11) + (1 : Int32))) (fun s8 => (f_Mod_sum s8).bind (fun p9 => lf_lt p9.1 (fun y10 => (if e7 = true then (if y10 ≤ y5 then some (false, p9.2) else some (true, p9.2)) else (if y5 ≤ y10 then some (false, p9.2) else some (true, p9.2)))))) else (f_Mod_isSign (62 : Int32) p6.2).bind (fun p11 => (if p11.1 = true then lf_lt (lf_w p11.2 389 11 ((p11.2.1 389 11) + (1 : Int32))) (fun s12 => (f_Mod_sum s12).bind (fun p13 => lf_lt p13.1 (fun y14 => (if e7 = true then (if y14 ≤ y5 then some (false, p13.2) else some (true, p13.2)) else (if y5 ≤ y14 then some (false, p13.2) else some (true, p13.2)))))) else (f_Mod_wrong (p11.2.1 389 11) p11.2).bind (fun p15 => some (false, p15))))))) else some (false, p4.2))))) (oz_cmp T len (Sum.inr p)) := by
  obtain ⟨w, u1, a1, a2, a3, a4⟩ := m_sum X
  unfold oz_cmp
  rw [a1, Option.bind_some, pl_1, oz_neg1, pl_60, pl_62]
  simp only [lf_lt]
  cases hs : (oz_smP T len (Sum.inr p)).2 with
  | inl q =>
    rw [hs] at a2
    have g0 : ∀ c, oz_isG T len c (Sum.inl q) = false := fun _ => rfl
    rw [if_neg (oz_atl a2), g0, g0, if_neg Bool.noConfusion, if_neg Bool.noConfusion]
    exact ⟨false, u1, rfl, oz_MY_of a2, a3, fun h => Bool.noConfusion h⟩
  | inr p1 =>
    rw [hs] at a2 a4
    have a4' := a4 rfl
    rw [if_pos (oz_at a2)]
    obtain ⟨u2, b1, b2, b3, b4⟩ := m_isSign a2 (c := 60) (by omega)
    have f2 := oz_fm_tr a3 b3
    rw [b1, Option.bind_some]
    have l400 := X.2.1
    have two : ∀ (v : lf_S) c, oz_isG T len c (Sum.inr p1) = true → oz_MX v T len (Sum.inr p1) → oz_fm s v → v.1 389 11 = nI p1 → ∃ y u, f_Mod_sum (lf_w v 389 11 ((v.1 389 11) + nI 1)) = some (y, u) ∧ oz_MX u T len (oz_smP T len (oz_toG T len c (Sum.inr p1))).2 ∧ oz_fm s u ∧ ((oz_smP T len (oz_toG T len c (Sum.inr p1))).2.isRight = true → oz_one (oz_gm s) 22 (oz_smP T len (oz_toG T len c (Sum.inr p1))).1 y) := by
      intro v c hc Xv fv h11
      have hc' : p1 < len ∧ T p1 = c := of_decide_eq_true hc
      have X2 := oz_MX_up1 Xv h11 hc'.1
      have et : oz_toG T len c (Sum.inr p1) = Sum.inr (oz_sb T len (p1 + 1)) := if_pos hc'
      obtain ⟨y, u, d1, d2, d3, d4⟩ := m_sum X2
      have f3 : oz_fm s (lf_w v 389 11 (nI (p1 + 1))) := oz_fm_tr fv (oz_fm_w (Or.inl rfl))
      rw [et, h11, nI_add]
      exact ⟨y, u, d1, d2, oz_fm_tr f3 d3, fun hr => by rw [← oz_gm_fm f3]; exact d4 hr⟩
    by_cases c1 : oz_isG T len 60 (Sum.inr p1) = true
    · obtain ⟨y, u, d1, d2, d3, d4⟩ := two u2 60 c1 b2 f2 b4
      simp only [c1, if_true]
      rw [d1, Option.bind_some]
      by_cases cy : y ≤ w
      · rw [if_pos cy]
        refine ⟨false, u, rfl, oz_MY_of d2, d3, fun hr => ?_⟩
        have := oz_one_2 (g := oz_gm s) (B := 21) (x := 1012) (by omega) (oz_one_le a4' (by omega)) (d4 hr)
        have e : oz_jv 1012 w y = oz_bi false := if_pos cy
        rw [e] at this
        exact this
      · rw [if_neg cy]
        refine ⟨true, u, rfl, oz_MY_of d2, d3, fun hr => ?_⟩
        have := oz_one_2 (g := oz_gm s) (B := 21) (x := 1012) (by omega) (oz_one_le a4' (by omega)) (d4 hr)
        have e : oz_jv 1012 w y = oz_bi true := if_neg cy
        rw [e] at this
        exact this
    · have e1 : oz_isG T len 60 (Sum.inr p1) = false := by
        cases h : oz_isG T len 60 (Sum.inr p1) with
        | false => rfl
        | true => exact absurd h c1
      obtain ⟨u3, g1, g2, g3, g4⟩ := m_isSign b2 (c := 62) (by omega)
      have f3 := oz_fm_tr f2 g3
      simp only [e1, Bool.false_eq_true, if_false]
      by_cases c2 : oz_isG T len 62 (Sum.inr p1) = true
      · obtain ⟨y, u, d1, d2, d3, d4⟩ := two u3 62 c2 g2 f3 g4
        rw [c2] at g1
        rw [oz_tkt g1, if_pos c2]
        try dsimp only
        rw [d1, Option.bind_some]
        by_cases cy : w ≤ y
        · rw [if_pos cy]
          refine ⟨false, u, rfl, oz_MY_of d2, d3, fun hr => ?_⟩
          have := oz_one_2 (g := oz_gm s) (B := 21) (x := 1013) (by omega) (oz_one_le a4' (by omega)) (d4 hr)
          have e : oz_jv 1013 w y = oz_bi false := if_pos cy
          rw [e] at this
          exact this
        · rw [if_neg cy]
          refine ⟨true, u, rfl, oz_MY_of d2, d3, fun hr => ?_⟩
          have := oz_one_2 (g := oz_gm s) (B := 21) (x := 1013) (by omega) (oz_one_le a4' (by omega)) (d4 hr)
          have e : oz_jv 1013 w y = oz_bi true := if_neg cy
          rw [e] at this
          exact this
      · have e2 : oz_isG T len 62 (Sum.inr p1) = false := by
          cases h : oz_isG T len 62 (Sum.inr p1) with
          | false => rfl
          | true => exact absurd h c2
        rw [e2] at g1
        rw [oz_tkf g1, if_neg c2]
        have hp := oz_MX_p g2
        obtain ⟨u4, i1, i2, i3⟩ := m_wrongQ g2 (q := p1) (by omega)
        try dsimp only
        rw [g4, i1, Option.bind_some]
        exact ⟨false, u4, rfl, oz_MY_of i2, oz_fm_tr f3 i3, fun h => Bool.noConfusion h⟩
theorem m_plain {p : Nat} (X : oz_MX s T len (Sum.inr p)) : oz_QR T len 0 21 s (f_Mod_plain s) (oz_pln T len (Sum.inr p)) := by
  unfold f_Mod_plain oz_pln
  show oz_QR T len 0 21 s _ (if oz_wd T len 61 p = true then _ else if oz_wd T len 62 p = true then _ else if oz_wd T len 63 p = true then _ else _)
  have w0 := m_fact X (t := 21) (c := 61) (k := 0) (by decide +kernel) (by decide +kernel) (by decide +kernel)
  by_cases c0 : oz_wd T len 61 p = true
  · obtain ⟨u, k1, k2, k3⟩ := w0.1 c0
    rw [oz_tkt k1, if_pos c0, pl_10, oz_ck (by omega) (by omega)]
    have eg : oz_gm s 1007 = if u.1 390 10 = (1 : Int32) then 1 else 0 := by rw [k3.1.1 390 (by omega)]; rfl
    have o := oz_one_1 (g := oz_gm s) (x := 1007) (B := 21) (by omega) (by omega)
    rw [eg] at o
    by_cases cc : u.1 390 10 = (1 : Int32)
    · rw [if_pos cc] at o
      rw [if_pos cc]
      exact ⟨true, u, rfl, oz_MY_of k2, k3, fun _ => o⟩
    · rw [if_neg cc] at o
      rw [if_neg cc]
      exact ⟨false, u, rfl, oz_MY_of k2, k3, fun _ => o⟩
  obtain ⟨u0, k0, x0, f0, y0⟩ := w0.2 (by cases h : oz_wd T len 61 p with
    | false => rfl
    | true => exact absurd h c0)
  rw [oz_tkf k0, if_neg c0]
  have w1 := m_fact x0 (t := 23) (c := 62) (k := 0) (by decide +kernel) (by decide +kernel) (by decide +kernel)
  by_cases c1 : oz_wd T len 62 p = true
  · obtain ⟨u, k1, k2, k3⟩ := w1.1 c1
    have f := oz_fm_tr f0 k3
    rw [oz_tkt k1, if_pos c1, pl_2, oz_ck (by omega) (by omega)]
    have eg : oz_gm s 1008 = if u.1 395 2 < nI 2 then 0 else 1 := by rw [f.1.1 395 (by omega)]; rfl
    have o := oz_one_1 (g := oz_gm s) (x := 1008) (B := 21) (by omega) (by omega)
    rw [eg] at o
    by_cases cc : u.1 395 2 < nI 2
    · rw [if_pos cc] at o
      rw [if_pos cc]
      exact ⟨false, u, rfl, oz_MY_of k2, f, fun _ => o⟩
    · rw [if_neg cc] at o
      rw [if_neg cc]
      exact ⟨true, u, rfl, oz_MY_of k2, f, fun _ => o⟩
  obtain ⟨u1, k1, x1, f1, y1⟩ := w1.2 (by cases h : oz_wd T len 62 p with
    | false => rfl
    | true => exact absurd h c1)
  have g1 := oz_fm_tr f0 f1
  rw [oz_tkf k1, if_neg c1]
  have w2 := m_fact x1 (t := 24) (c := 63) (k := 0) (by decide +kernel) (by decide +kernel) (by decide +kernel)
  by_cases c2 : oz_wd T len 63 p = true
  · obtain ⟨u, k1, k2, k3⟩ := w2.1 c2
    have f := oz_fm_tr g1 k3
    rw [oz_tkt k1, if_pos c2, pl_3, oz_ck (by omega) (by omega)]
    have eg : oz_gm s 1009 = if u.1 395 3 ≤ (50 : Int32) then 0 else 1 := by rw [f.1.1 395 (by omega)]; rfl
    have o := oz_one_1 (g := oz_gm s) (x := 1009) (B := 21) (by omega) (by omega)
    rw [eg] at o
    by_cases cc : u.1 395 3 ≤ (50 : Int32)
    · rw [if_pos cc] at o
      rw [if_pos cc]
      exact ⟨false, u, rfl, oz_MY_of k2, f, fun _ => o⟩
    · rw [if_neg cc] at o
      rw [if_neg cc]
      exact ⟨true, u, rfl, oz_MY_of k2, f, fun _ => o⟩
  obtain ⟨u2, k2, x2, f2, y2⟩ := w2.2 (by cases h : oz_wd T len 63 p with
    | false => rfl
    | true => exact absurd h c2)
  rw [oz_tkf k2, if_neg c2]
  exact oz_QR_tr (oz_fm_tr g1 f2) (m_cmp x2)
end
