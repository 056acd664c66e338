/-! ===== the tape told; weaves found out ===== -/
theorem oz_lt0' {α : Type} {A B : Int32 → α} : lf_lt (0 : Int32) (fun y => if y = 0 then A y else B y) = A 0 := by
  unfold lf_lt
  exact if_pos rfl
theorem oz_lt1' {α : Type} {A B : Int32 → α} : lf_lt (1 : Int32) (fun y => if y = 0 then A y else B y) = B 1 := by
  unfold lf_lt
  exact if_neg (by decide +kernel)
theorem oz_rb0 : lf_rb 0 = some false := by decide +kernel
theorem oz_rb1 : lf_rb 1 = some true := by decide +kernel
theorem oz_rbi (b : Bool) : lf_rb (lf_i b) = some b := by cases b <;> decide +kernel
theorem oz_i0 (b : Bool) : (lf_i b = 0) = (b = false) := by cases b <;> simp [lf_i]
def oz_T (s : lf_S) (T : Nat → Nat) (len : Nat) : Prop := s.1 1 1 = nI len ∧ s.1 389 8 = nI len ∧ len ≤ 400 ∧ ∀ i, i < len → T i ≤ 255 ∧ s.1 2 i = nI (T i) ∧ s.1 394 i = nI (T i)
section
variable {s : lf_S} {T : Nat → Nat} {len : Nat}
theorem c_takeTelling (h : oz_T s T len) {m : Nat} (hm : m ≤ 40) : ∃ t, f_Ways_takeTelling (nI m) s = some (decide (len ≤ m), t) ∧ t.1 3 0 = nI (if len ≤ m then len else 0) ∧ (∀ i, i < (if len ≤ m then len else 0) → t.1 4 i = nI (T i)) ∧ t.1 1 1 = nI 0 ∧ oz_fr (fun p => p = 1 ∨ p = 3 ∨ p = 4) s t := by
  obtain ⟨h1, h2, h3, h4⟩ := h
  have cp : ∀ (u : lf_S) (n : Nat), n ≤ 40 → u.1 3 0 = nI n → (lf_cpk (0 : Int32) (0 : Int32) (u.1 3 0) 400 40 (fun k4 k5 k6 => lf_lt (lf_cp u 2 k4 4 k5 k6) (fun s3 => lf_lt (lf_w s3 1 1 (0 : Int32)) (fun s7 => some s7)))) = some (lf_w (lf_cp u 2 0 4 0 n) 1 1 (nI 0)) := by
    intro u n hn hu
    rw [hu]
    simp (disch := first | assumption | omega) only [lf_lt, pl_0, oz_cpk]
  have cpb : ∀ (u : lf_S) (n : Nat) (b : Bool), n ≤ 40 → u.1 3 0 = nI n → (lf_cpk (0 : Int32) (0 : Int32) (u.1 3 0) 400 40 (fun k4 k5 k6 => lf_lt (lf_cp u 2 k4 4 k5 k6) (fun s3 => lf_lt (lf_w s3 1 1 (0 : Int32)) (fun s7 => (lf_rb (lf_i b)).bind (fun q8 => some (q8, s7)))))) = some (b, lf_w (lf_cp u 2 0 4 0 n) 1 1 (nI 0)) := by
    intro u n b hn hu
    rw [hu]
    simp (disch := first | assumption | omega) only [lf_lt, pl_0, oz_cpk, oz_rbi, Option.bind_some]
  by_cases c : len ≤ m
  · rw [if_pos c, decide_eq_true c]
    have fr : oz_fr (fun p => p = 1 ∨ p = 3 ∨ p = 4) s (lf_w (lf_cp (lf_w s 3 0 (nI len)) 2 0 4 0 len) 1 1 (nI 0)) := oz_fr_tr (oz_fr_w (by omega)) (oz_fr_tr (oz_fr_cp (by omega)) (oz_fr_w (by omega)))
    refine ⟨lf_w (lf_cp (lf_w s 3 0 (nI len)) 2 0 4 0 len) 1 1 (nI 0), ?_, ?_, fun i hi => ?_, oz_w_s, fr⟩
    · unfold f_Ways_takeTelling
      rw [h1, if_neg (of_eq_false (oz_lt_f c (by omega))), if_neg (by rw [pl_40]; exact of_eq_false (oz_lt_f hm (by omega))), oz_lt1']
      exact cpb (lf_w s 3 0 (nI len)) len true (by omega) oz_w_s
    · rw [oz_w_o (by omega), oz_cp_o (by omega)]; exact oz_w_s
    · rw [oz_w_o (by omega), oz_cp_s hi, oz_w_o (by omega)]; exact (h4 i hi).2.1
  · rw [if_neg c, decide_eq_false c]
    have fr : oz_fr (fun p => p = 1 ∨ p = 3 ∨ p = 4) s (lf_w (lf_cp (lf_w s 3 0 (nI 0)) 2 0 4 0 0) 1 1 (nI 0)) := oz_fr_tr (oz_fr_w (by omega)) (oz_fr_tr (oz_fr_cp (by omega)) (oz_fr_w (by omega)))
    refine ⟨lf_w (lf_cp (lf_w s 3 0 (nI 0)) 2 0 4 0 0) 1 1 (nI 0), ?_, ?_, fun i hi => by omega, oz_w_s, fr⟩
    · unfold f_Ways_takeTelling
      rw [h1, if_pos (of_eq_true (oz_lt_t (by omega) (by omega))), oz_lt0']
      exact cpb (lf_w s 3 0 (nI 0)) 0 false (by omega) oz_w_s
    · rw [oz_w_o (by omega), oz_cp_o (by omega)]; exact oz_w_s
/-- all of the first n are well -/
def oz_ok (P : Nat → Bool) : Nat → Bool
  | 0 => true
  | n + 1 => oz_ok P n && P n
theorem oz_ok_t {P : Nat → Bool} : ∀ n, oz_ok P n = true ↔ ∀ i, i < n → P i = true := by
  intro n
  induction n with
  | zero => exact ⟨fun _ i h => by omega, fun _ => rfl⟩
  | succ n ih =>
    show (oz_ok P n && P n) = true ↔ _
    rw [Bool.and_eq_true, ih]
    constructor
    · intro h i hi
      by_cases c : i = n
      · rw [c]; exact h.2
      · exact h.1 i (by omega)
    · intro h
      exact ⟨fun i hi => h i (by omega), h n (by omega)⟩
def oz_pc (T : Nat → Nat) (i : Nat) : Bool := decide (1 ≤ T i ∧ T i ≤ 72)
def oz_pcs (T : Nat → Nat) (len : Nat) : Bool := decide (len ≤ 8) && oz_ok (oz_pc T) (if len ≤ 8 then len else 0)
theorem c_takePieces (h : oz_T s T len) : ∃ t, f_Ways_takePieces s = some (oz_pcs T len, t) ∧ t.1 3 0 = nI (if len ≤ 8 then len else 0) ∧ (∀ i, i < (if len ≤ 8 then len else 0) → t.1 4 i = nI (T i)) ∧ t.1 1 1 = nI 0 ∧ oz_fr (fun p => p = 1 ∨ p = 3 ∨ p = 4) s t := by
  obtain ⟨t, k1, g1, g2, g3, g4⟩ := c_takeTelling h (m := 8) (by omega)
  have hb : ∀ i, i < (if len ≤ 8 then len else 0) → T i ≤ 255 := fun i hi => (h.2.2.2 i (by split at hi <;> omega)).1
  have hN : (if len ≤ 8 then len else 0) ≤ 8 := by split <;> omega
  generalize hw : (if len ≤ 8 then len else 0) = w at *
  have key := (oz_forI (N := w) (fun _ (_ : Bool) => True) (fun f i (x : Bool) => f_Ways_takePieces_10 f (lf_i x) (nI i) t) (fun i x => x && oz_pc T i) (fun x => (lf_i x, t)) (decide (len ≤ 8)) trivial (fun _ _ _ _ => trivial) (by
      intro f x _
      rw [f_Ways_takePieces_10, g1, oz_ile_t (by omega) (by omega)]) (by
      intro f i x hi _
      have hT := hb i hi
      rw [f_Ways_takePieces_10, g1, oz_ile_f hi (by omega)]
      cases x with
      | false =>
        rw [if_pos (by decide +kernel)]
        simp only [lf_lt, pl_1, nI_add]
        rfl
      | true =>
        rw [if_neg (by decide +kernel)]
        simp (disch := first | assumption | omega) only [lf_lt, pl_1, pl_72, nI_add, oz_ck, g2 i hi]
        unfold oz_pc
        by_cases c1 : T i < 1
        · rw [oz_ilt_t c1 (by omega), decide_eq_false (by omega)]; rfl
        · rw [oz_ilt_f (by omega) (by omega)]
          by_cases c2 : 72 < T i
          · rw [oz_ilt_t c2 (by omega), decide_eq_false (by omega)]; rfl
          · rw [oz_ilt_f (by omega) (by omega), decide_eq_true (by omega)]; rfl) 5000 (by omega)).1
  have e : ∀ n b, oz_it (fun i x => x && oz_pc T i) n b = (b && oz_ok (oz_pc T) n) := by
    intro n b
    induction n with
    | zero => show b = (b && true); rw [Bool.and_true]
    | succ n ih => show (oz_it _ n b && oz_pc T n) = (b && (oz_ok (oz_pc T) n && oz_pc T n)); rw [ih, Bool.and_assoc]
  rw [e] at key
  refine ⟨t, ?_, g1, g2, g3, g4⟩
  unfold f_Ways_takePieces
  have p8 : (8 : Int32) = nI 8 := rfl
  rw [p8, k1, Option.bind_some]
  simp only [lf_lt, pl_0, key, Option.bind_some, oz_rbi]
  unfold oz_pcs
  rw [hw]
def oz_sn (T : Nat → Nat) (i : Nat) : Bool := decide (T i < if i % 2 = 0 then 100 else 2)
def oz_sns (T : Nat → Nat) (len : Nat) : Bool := (decide (len ≤ 40) && decide ((if len ≤ 40 then len else 0) % 2 = 0)) && oz_ok (oz_sn T) (if len ≤ 40 then len else 0)
theorem c_takeSeen (h : oz_T s T len) : ∃ t, f_Ways_takeSeen s = some (oz_sns T len, t) ∧ t.1 3 0 = nI (if len ≤ 40 then len else 0) ∧ (∀ i, i < (if len ≤ 40 then len else 0) → t.1 4 i = nI (T i)) ∧ t.1 1 1 = nI 0 ∧ oz_fr (fun p => p = 1 ∨ p = 3 ∨ p = 4) s t := by
  obtain ⟨t, k1, g1, g2, g3, g4⟩ := c_takeTelling h (m := 40) (by omega)
  have hb : ∀ i, i < (if len ≤ 40 then len else 0) → T i ≤ 255 := fun i hi => (h.2.2.2 i (by split at hi <;> omega)).1
  have hN : (if len ≤ 40 then len else 0) ≤ 40 := by split <;> omega
  have hw0 : ∀ w, (if len ≤ 40 then len else 0) = w → oz_sns T len = ((decide (len ≤ 40) && decide (w % 2 = 0)) && oz_ok (oz_sn T) w) := by
    intro w hw
    unfold oz_sns
    rw [hw]
  generalize hw : (if len ≤ 40 then len else 0) = w at *
  rw [hw0 w rfl]
  have key := fun b => (oz_forI (N := w) (fun _ (_ : Bool) => True) (fun f i (x : Bool) => f_Ways_takeSeen_27 f (lf_i x) (nI i) t) (fun i x => x && oz_sn T i) (fun x => (lf_i x, t)) b trivial (fun _ _ _ _ => trivial) (by
      intro f x _
      rw [f_Ways_takeSeen_27, g1, oz_ile_t (by omega) (by omega)]) (by
      intro f i x hi _
      have hT := hb i hi
      rw [f_Ways_takeSeen_27, g1, oz_ile_f hi (by omega)]
      cases x with
      | false =>
        rw [if_pos (by decide +kernel)]
        simp only [lf_lt, pl_1, nI_add]
        rfl
      | true =>
        rw [if_neg (by decide +kernel)]
        simp (disch := first | assumption | omega) only [lf_lt, pl_1, pl_2, pl_100, nI_add, oz_ck, g2 i hi, oz_mod]
        unfold oz_sn
        by_cases c0 : i % 2 = 0
        · rw [if_pos (by rw [c0]; rfl), if_pos c0]
          by_cases c1 : T i < 100
          · rw [oz_ile_f c1 (by omega), decide_eq_true c1]; rfl
          · rw [oz_ile_t (by omega) (by omega), decide_eq_false c1]; rfl
        · rw [if_neg (by rw [pl_0, oz_eq (by omega) (by omega)]; exact c0), if_neg c0]
          by_cases c1 : T i < 2
          · rw [oz_ile_f c1 (by omega), decide_eq_true c1]; rfl
          · rw [oz_ile_t (by omega) (by omega), decide_eq_false c1]; rfl) 5000 (by omega)).1
  have e : ∀ n b, oz_it (fun i x => x && oz_sn T i) n b = (b && oz_ok (oz_sn T) n) := by
    intro n b
    induction n with
    | zero => show b = (b && true); rw [Bool.and_true]
    | succ n ih => show (oz_it _ n b && oz_sn T n) = (b && (oz_ok (oz_sn T) n && oz_sn T n)); rw [ih, Bool.and_assoc]
  refine ⟨t, ?_, g1, g2, g3, g4⟩
  unfold f_Ways_takeSeen
  have p8 : (40 : Int32) = nI 40 := rfl
  rw [p8, k1, Option.bind_some]
  try dsimp only
  cases c : decide (len ≤ 40) with
  | false =>
    rw [if_neg (by simp)]
    have k := key false
    rw [e] at k
    change f_Ways_takeSeen_27 5000 (nI 0) (nI 0) t = _ at k
    simp only [lf_lt, pl_0, k, Option.bind_some, oz_rbi]
    rfl
  | true =>
    rw [if_pos rfl, g1]
    by_cases c2 : w % 2 = 0
    · have k := key true
      rw [e] at k
      change f_Ways_takeSeen_27 5000 (nI 1) (nI 0) t = _ at k
      rw [if_pos (by rw [pl_2, oz_mod (by omega) (by omega) (by omega), c2]; rfl), decide_eq_true c2]
      simp only [lf_lt, pl_0, pl_1, k, Option.bind_some, oz_rbi]
      rfl
    · have k := key false
      rw [e] at k
      change f_Ways_takeSeen_27 5000 (nI 0) (nI 0) t = _ at k
      rw [if_neg (by rw [pl_2, oz_mod (by omega) (by omega) (by omega), pl_0, oz_eq (by omega) (by omega)]; exact c2), decide_eq_false c2]
      simp only [lf_lt, pl_0, k, Option.bind_some, oz_rbi]
      rfl
end
