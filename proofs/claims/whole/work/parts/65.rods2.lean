/-! ===== the fewest rods: class's tops, the model's search ===== -/
def oz_z (_ : Nat) : Nat := 0
def oz_pk0 (T : Nat → Nat) (n L k : Nat) : Option (Nat → Nat) := oz_pk T L n 0 0 oz_z oz_z k
def oz_rd (T : Nat → Nat) (n L : Nat) : Option Nat := oz_fst (fun k => (oz_pk0 T n L k).isSome) 0 (n + 1)
theorem oz_fst_is {P : Nat → Bool} {m : Nat} : ∀ k i, (∀ j, i ≤ j → j < m → P j = false) → P m = true → i ≤ m → m < i + k → oz_fst P i k = some m := by
  intro k
  induction k with
  | zero => intro i _ _ h1 h2; omega
  | succ k ih =>
    intro i h hm h1 h2
    unfold oz_fst
    by_cases c : i = m
    · rw [c, if_pos hm]
    · rw [if_neg (by rw [h i (by omega) (by omega)]; simp)]
      exact ih (i + 1) (fun j a b => h j (by omega) b) hm (by omega) (by omega)
theorem oz_fst_no {P : Nat → Bool} : ∀ k i, (∀ j, i ≤ j → j < i + k → P j = false) → oz_fst P i k = none := by
  intro k
  induction k with
  | zero => intro i _; rfl
  | succ k ih =>
    intro i h
    unfold oz_fst
    rw [if_neg (by rw [h i (by omega) (by omega)]; simp)]
    exact ih (i + 1) (fun j a b => h j (by omega) (by omega))
theorem oz_fst_sp {P : Nat → Bool} {m : Nat} : ∀ k i, oz_fst P i k = some m → P m = true ∧ i ≤ m ∧ m < i + k ∧ ∀ j, i ≤ j → j < m → P j = false := by
  intro k
  induction k with
  | zero => intro i h; cases h
  | succ k ih =>
    intro i h
    unfold oz_fst at h
    split at h
    · rename_i c
      cases h
      exact ⟨c, by omega, by omega, fun j a b => by omega⟩
    · rename_i c
      obtain ⟨a1, a2, a3, a4⟩ := ih (i + 1) h
      refine ⟨a1, by omega, by omega, fun j h1 h2 => ?_⟩
      by_cases cj : j = i
      · rw [cj]; simpa using c
      · exact a4 j (by omega) h2
theorem oz_rd_t {T : Nat → Nat} {n L m : Nat} {A : Nat → Nat} (h : oz_pk0 T n L m = some A) (h2 : ∀ k, k < m → oz_pk0 T n L k = none) : oz_rd T n L = some m := by
  refine oz_fst_is (n + 1) 0 (fun j _ hj => ?_) ?_ (by omega) ?_
  · show (oz_pk0 T n L j).isSome = false
    rw [h2 j hj]; rfl
  · show (oz_pk0 T n L m).isSome = true
    rw [h]; rfl
  · by_cases c : m < 0 + (n + 1)
    · exact c
    · exact absurd (h2 n (by omega)) (oz_pk_ex n 0 0 oz_z oz_z (oz_pk_T n 0 0 oz_z oz_z A h) (fun _ _ => rfl) (by omega))
theorem oz_rd_f {T : Nat → Nat} {n L : Nat} (h : ∀ k, oz_pk0 T n L k = none) : oz_rd T n L = none := oz_fst_no (n + 1) 0 (fun j _ _ => by
  show (oz_pk0 T n L j).isSome = false
  rw [h j]; rfl)
theorem c_needIndex_t {x l h : Nat} {s : lf_S} (h1 : l ≤ x) (h2 : x ≤ h) (h3 : h < 2147483648) : f_Main_needIndex (nI x) (nI l) (nI h) s = some (Sum.inr (), s) := by
  unfold f_Main_needIndex
  rw [oz_ilt_f h1 (by omega), oz_ile_t h2 h3]
theorem c_needIndex_f {x l h : Int32} {s : lf_S} (c : x < l ∨ (¬ x < l ∧ h < x)) : f_Main_needIndex x l h s = some (Sum.inl 3, s) := by
  unfold f_Main_needIndex
  rcases c with c | ⟨c1, c2⟩
  · rw [if_pos c]
  · rw [if_neg c1, if_neg (fun z => by
      rw [Int32.le_iff_toInt_le] at z
      rw [Int32.lt_iff_toInt_lt] at c2
      omega)]
theorem c_needFeet_t {f : Nat} {s : lf_S} (h1 : 1 ≤ f) (h2 : f ≤ 6) : f_Main_needFeet (nI f) s = some (Sum.inr (), s) := by
  unfold f_Main_needFeet lf_tb
  rw [pl_1, pl_6, c_needIndex_t h1 h2 (by omega)]; rfl
theorem c_needFeet_f {x : Int32} {s : lf_S} (c : x < nI 1 ∨ (¬ x < nI 1 ∧ nI 6 < x)) : f_Main_needFeet x s = some (Sum.inl 3, s) := by
  unfold f_Main_needFeet lf_tb
  rw [pl_1, pl_6, c_needIndex_f c]; rfl
/-- which rod piece x comes from -/
def oz_rod (T : Nat → Nat) (n L : Nat) (x : Int32) : Int32 := match oz_rd T n L with
  | none => oz_N
  | some m => match oz_pk0 T n L m with
    | none => oz_N
    | some A => if 0 ≤ x.toInt ∧ x.toInt < n then nI (A x.toInt.toNat) else oz_N
theorem oz_toInt_eq {x : Int32} {v : Nat} (h : x.toInt = (v : Int)) (hv : v < 2147483648) : x = nI v := by
  apply Int32.toInt_inj.mp
  rw [h, oz_ti hv]
section
variable {s : lf_S} {T : Nat → Nat} {n len : Nat}
theorem c_fewestRods (hn : n ≤ 8) {f : Nat} (hf : f ≤ 6) (hT : ∀ j, j < n → T j ≤ 255) (h0 : s.1 3 0 = nI n) (h4 : ∀ j, j < n → s.1 4 j = nI (T j)) : ∃ t, f_Ways_fewestRods (nI f) s = some (oz_en (oz_rd T n (12 * f)), t) ∧ oz_fr (fun p => p = 3 ∨ p = 5 ∨ p = 6 ∨ p = 7) s t ∧ t.1 3 0 = nI n ∧ ∀ m, oz_rd T n (12 * f) = some m → ∃ A, oz_pk0 T n (12 * f) m = some A ∧ ∀ j, j < n → t.1 5 j = nI (A j) := by
  obtain ⟨t1, k1, g1, g2, g3, g4⟩ := c_beginTrying (s := s)
  obtain ⟨t, b', k2, X⟩ := c_tryRods (T := T) (L := 12 * f) (n := n) hn (by omega) hT n 0 0 oz_z oz_z none t1 64 (by omega) (by omega) (by omega) (fun r => Nat.zero_le _) (by rw [g4 0 (by omega)]; exact h0) (fun j hj => by rw [g3.1 4 (by omega)]; exact h4 j hj) (fun r hr => (g2 r hr).1) (fun j hj => absurd hj (by omega)) g1 (fun m hm => by cases hm)
  have hb : oz_rd T n (12 * f) = b' ∧ ∀ m, oz_rd T n (12 * f) = some m → ∃ A, oz_pk0 T n (12 * f) m = some A ∧ ∀ j, j < n → t.1 5 j = nI (A j) := by
    rcases X.lb.ch with ⟨e, _⟩ | ⟨m, A', e, _, hp, hk⟩
    · have := oz_rd_f (T := T) (n := n) (L := 12 * f) (fun k => X.lb.no k (fun m hm => by rw [e] at hm; cases hm))
      rw [this]
      exact ⟨e.symm, fun m hm => by cases hm⟩
    · have := oz_rd_t (T := T) (n := n) (L := 12 * f) (m := m) (A := A') hp (fun k hk => X.lb.no k (fun m2 hm2 => by rw [e] at hm2; cases hm2; exact hk))
      rw [this]
      exact ⟨e.symm, fun m2 hm2 => by cases hm2; exact ⟨A', hp, hk⟩⟩
  refine ⟨t, ?_, oz_fr_tr (oz_fr_mono g3 (by omega)) X.fr, by rw [X.c3 0 (by omega), g4 0 (by omega)]; exact h0, hb.2⟩
  unfold f_Ways_fewestRods f_Ways_tryRods
  rw [k1, Option.bind_some, pl_0, pl_12, pk_mul, k2, Option.bind_some, hb.1, X.c5]
def oz_pcR (T : Nat → Nat) (len : Nat) (x : Int32) (v : Nat → Int32) : Nat ⊕ Int32 := if 1 ≤ x.toInt ∧ x.toInt ≤ 6 then (if oz_pcs T len = true then Sum.inr (v x.toInt.toNat) else Sum.inl 0) else Sum.inl 3
theorem oz_isft (x : Int32) : (∃ f, 1 ≤ f ∧ f ≤ 6 ∧ x = nI f ∧ x.toInt = (f : Int)) ∨ ((x < nI 1 ∨ (¬ x < nI 1 ∧ nI 6 < x)) ∧ ¬ (1 ≤ x.toInt ∧ x.toInt ≤ 6)) := by
  by_cases c : 1 ≤ x.toInt ∧ x.toInt ≤ 6
  · left
    have e : x.toInt = ((x.toInt.toNat : Nat) : Int) := by omega
    exact ⟨x.toInt.toNat, by omega, by omega, oz_toInt_eq e (by omega), e⟩
  · right
    refine ⟨?_, c⟩
    rw [Int32.lt_iff_toInt_lt, Int32.lt_iff_toInt_lt, oz_ti (by omega), oz_ti (by omega)]
    omega
theorem oz_pcs_l (h : oz_pcs T len = true) : len ≤ 8 := by
  unfold oz_pcs at h
  rw [Bool.and_eq_true] at h
  exact of_decide_eq_true h.1
theorem c_pieces (h : oz_T s T len) (x : Int32) : ∃ t, f_Main_pieces x s = some (oz_pcR T len x (fun f => oz_en (oz_rd T len (12 * f))), t) ∧ t.1 1 1 = nI 0 ∧ oz_fr (fun p => p = 1 ∨ (3 ≤ p ∧ p ≤ 7)) s t := by
  obtain ⟨t, k1, g1, g2, g3, g4⟩ := c_takePieces h
  unfold f_Main_pieces oz_pcR
  rw [k1, Option.bind_some]
  simp only [lf_lt]
  rcases oz_isft x with ⟨f, f1, f2, f3, f4⟩ | ⟨f1, f2⟩
  · rw [f4, if_pos (by omega), f3, c_needFeet_t f1 f2]
    unfold lf_tb
    rw [Option.bind_some]
    try dsimp only
    cases c : oz_pcs T len with
    | false =>
      rw [oz_tape_f rfl, if_neg (by simp)]
      exact ⟨t, rfl, g3, oz_fr_mono g4 (by omega)⟩
    | true =>
      have hl := oz_pcs_l c
      rw [if_pos hl] at g1 g2
      obtain ⟨u, l1, l2, l3, l4⟩ := c_fewestRods (s := t) hl f2 (T := T) (fun j hj => (h.2.2.2 j hj).1) g1 g2
      rw [oz_tape_t rfl, if_pos rfl, Option.bind_some]
      try dsimp only
      rw [l1, Option.bind_some]
      exact ⟨u, rfl, by rw [l2.1 1 (by omega)]; exact g3, oz_fr_tr (oz_fr_mono g4 (by omega)) (oz_fr_mono l2 (by omega))⟩
  · rw [if_neg f2, c_needFeet_f f1]
    exact ⟨t, rfl, g3, oz_fr_mono g4 (by omega)⟩
theorem c_rod (h : oz_T s T len) (x y : Int32) : ∃ t, f_Main_rod x y s = some (oz_pcR T len x (fun f => oz_rod T len (12 * f) y), t) ∧ t.1 1 1 = nI 0 ∧ oz_fr (fun p => p = 1 ∨ (3 ≤ p ∧ p ≤ 7)) s t := by
  obtain ⟨t, k1, g1, g2, g3, g4⟩ := c_takePieces h
  unfold f_Main_rod oz_pcR
  rw [k1, Option.bind_some]
  simp only [lf_lt]
  rcases oz_isft x with ⟨f, f1, f2, f3, f4⟩ | ⟨f1, f2⟩
  · rw [f4, if_pos (by omega), f3, c_needFeet_t f1 f2]
    unfold lf_tb
    rw [Option.bind_some]
    try dsimp only
    cases c : oz_pcs T len with
    | false =>
      rw [oz_tape_f rfl, if_neg (by simp)]
      exact ⟨t, rfl, g3, oz_fr_mono g4 (by omega)⟩
    | true =>
      have hl := oz_pcs_l c
      rw [if_pos hl] at g1 g2
      obtain ⟨u, l1, l2, l3, l4⟩ := c_fewestRods (s := t) hl f2 (T := T) (fun j hj => (h.2.2.2 j hj).1) g1 g2
      rw [oz_tape_t rfl, if_pos rfl, Option.bind_some]
      try dsimp only
      rw [l1, Option.bind_some, show ((f : Nat) : Int).toNat = f from Int.toNat_natCast f]
      refine ⟨u, ?_, by rw [l2.1 1 (by omega)]; exact g3, oz_fr_tr (oz_fr_mono g4 (by omega)) (oz_fr_mono l2 (by omega))⟩
      unfold oz_rod
      try dsimp only
      rw [pl_1, oz_neg1]
      cases hm : oz_rd T len (12 * f) with
      | none => exact if_pos rfl
      | some m =>
        obtain ⟨A, a1, a2⟩ := l4 m hm
        have hmm := (oz_fst_sp _ _ hm).2.2.1
        rw [if_neg (show ¬ oz_en (some m) = oz_N from of_eq_false (oz_eqm1 (by omega))), l3]
        try dsimp only
        rw [a1]
        try dsimp only
        by_cases c1 : y.toInt < 0
        · rw [if_pos (show y < 0 by rw [Int32.lt_iff_toInt_lt]; exact c1), if_neg (by omega)]
        · rw [if_neg (show ¬ y < 0 by rw [Int32.lt_iff_toInt_lt]; exact c1)]
          by_cases c2 : y.toInt < len
          · have e : y.toInt = ((y.toInt.toNat : Nat) : Int) := by omega
            rw [if_pos (show y < nI len by rw [Int32.lt_iff_toInt_lt, oz_ti (by omega)]; exact c2), if_pos (by omega)]
            have ey := oz_toInt_eq e (by omega)
            generalize y.toInt.toNat = v at *
            rw [ey, oz_ck (by omega) (by omega), a2 v (by omega)]
          · rw [if_neg (show ¬ y < nI len by rw [Int32.lt_iff_toInt_lt, oz_ti (by omega)]; exact c2), if_neg (by omega)]
  · rw [if_neg f2, c_needFeet_f f1]
    exact ⟨t, rfl, g3, oz_fr_mono g4 (by omega)⟩
end
