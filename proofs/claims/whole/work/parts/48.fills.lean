/-! ===== the best orders from the store ===== -/
theorem oz_forE {σ ρ : Type} {N : Nat} (I : Nat → σ → Prop) (L : Nat → Nat → σ → Option ρ) (r : σ → ρ)
    (h0 : ∀ n x, I N x → L (n + 1) N x = some (r x)) (h1 : ∀ n i x, i < N → I i x → ∃ y, I (i + 1) y ∧ L (n + 1) i x = L n (i + 1) y) :
    ∀ k i fuel x, i + k = N → k < fuel → I i x → ∃ y, L fuel i x = some (r y) ∧ I N y := by
  intro k
  induction k with
  | zero =>
    intro i fuel x e hf hi
    obtain rfl : i = N := by omega
    obtain ⟨m, rfl⟩ : ∃ m, fuel = m + 1 := ⟨fuel - 1, by omega⟩
    exact ⟨x, h0 m x hi, hi⟩
  | succ k ih =>
    intro i fuel x e hf hi
    obtain ⟨m, rfl⟩ : ∃ m, fuel = m + 1 := ⟨fuel - 1, by omega⟩
    obtain ⟨y, h2, h3⟩ := h1 m i x (by omega) hi
    rw [h3]
    exact ih (i + 1) m y (by omega) (by omega) h2
theorem oz_searchF {ρ : Type} {N i0 : Nat} (L : Nat → Nat → Option ρ) (P : Nat → Bool) (y : ρ) (r : Nat → ρ)
    (h0 : ∀ n, L (n + 1) N = some y) (h1 : ∀ n i, i0 ≤ i → i < N → L (n + 1) i = if P i then some (r i) else L n (i + 1)) :
    ∀ k i fuel, i0 ≤ i → i + k = N → k < fuel → L fuel i = some ((oz_fst P i k).elim y r) := by
  intro k
  induction k with
  | zero =>
    intro i fuel e0 e hf
    obtain rfl : i = N := by omega
    obtain ⟨m, rfl⟩ : ∃ m, fuel = m + 1 := ⟨fuel - 1, by omega⟩
    exact h0 m
  | succ k ih =>
    intro i fuel e0 e hf
    obtain ⟨m, rfl⟩ : ∃ m, fuel = m + 1 := ⟨fuel - 1, by omega⟩
    rw [h1 m i e0 (by omega)]
    unfold oz_fst
    cases h : P i with
    | true => rfl
    | false =>
      rw [if_neg (by simp), if_neg (by simp)]
      exact ih (i + 1) m (by omega) (by omega) (by omega)
def oz_ned (a : Nat → Nat) (set n f : Nat) : Nat := oz_sum (fun o => if set.testBit o then (if oz_feet a o = f then oz_rods a o else 0) else 0) n
def oz_psum (a : Nat → Nat) (set : Nat) : Nat := oz_sum (fun o => if set.testBit o then oz_pays a o else 0) (a 6)
def oz_can (a : Nat → Nat) (set : Nat) : Bool := decide (set &&& oz_opens a = set) && (oz_fst (fun f => decide (oz_sto a f < oz_ned a set (a 6) f)) 1 6).isNone
def oz_fills (a : Nat → Nat) : Nat := oz_best (oz_psum a) (oz_can a) (2 ^ a 6 - 1)
theorem oz_subset : ∀ x, x < 64 → ∀ y, y < 64 → ((nI x &&& (nI y ^^^ (-1 : Int32))) = 0) = (x &&& y = x) := by
  have h : ∀ x, x < 64 → ∀ y, y < 64 → ((nI x &&& (nI y ^^^ (-1 : Int32))) = 0 ↔ x &&& y = x) := by decide +kernel
  exact fun x hx y hy => propext (h x hx y hy)
section
variable {s : lf_S} {a : Nat → Nat} {b : Nat}
theorem oz_ned_le (V : oz_V a) {set f n : Nat} (hn : n ≤ a 6) : oz_ned a set n f ≤ 6480 := by
  have h0 := oz_v0 V
  unfold oz_V0 at h0
  have h := oz_sum_le (f := fun o => if set.testBit o then (if oz_feet a o = f then oz_rods a o else 0) else 0) (N := n) (B := 1080) (fun i hi => by
    have := oz_rods_le V (o := i) (by omega)
    try dsimp only
    split
    · split <;> omega
    · omega)
  unfold oz_ned
  omega
theorem oz_psum_le (V : oz_V a) {set : Nat} : ∀ n, n ≤ a 6 → oz_sum (fun o => if set.testBit o then oz_pays a o else 0) n ≤ 5346 := by
  intro n hn
  have h0 := oz_v0 V
  unfold oz_V0 at h0
  have h := oz_sum_le (f := fun o => if set.testBit o then oz_pays a o else 0) (N := n) (B := 891) (fun i hi => by
    have := oz_rods_le V (o := i) (by omega)
    try dsimp only
    split <;> omega)
  omega
theorem oz_can_0 (V : oz_V a) : oz_can a 0 = true := by
  have e : ∀ n f, oz_ned a 0 n f = 0 := by
    intro n f
    induction n with
    | zero => rfl
    | succ n ih =>
      show oz_ned a 0 n f + _ = 0
      rw [ih]; simp only [Nat.zero_testBit]; rfl
  unfold oz_can
  have e2 : oz_fst (fun f => decide (oz_sto a f < oz_ned a 0 (a 6) f)) 1 6 = none := by
    cases h : oz_fst (fun f => decide (oz_sto a f < oz_ned a 0 (a 6) f)) 1 6 with
    | none => rfl
    | some v =>
      have := (oz_fst_some _ _ _ h).2.2
      rw [e] at this
      simp at this
  rw [e2, Nat.zero_and]; rfl
theorem m_filled (V : oz_V a) {set : Nat} (hs : set < 64) : ∃ t, f_Mod_filled (nI set) (oz_md s a) = some ((if oz_can a set then nI (oz_psum a set) else (-1 : Int32)), oz_md t a) ∧ oz_fr (fun p => p = 396) s t := by
  have h0 := oz_v0 V
  unfold oz_V0 at h0
  have ho := oz_opens_lt V
  unfold f_Mod_filled
  rw [m_openOnes V, Option.bind_some]
  by_cases c : set &&& oz_opens a = set
  · rw [if_pos (by rw [oz_subset set hs _ ho]; exact c)]
    obtain ⟨t1, k1, g1⟩ := oz_forE (N := 7) (fun i (t : lf_S) => (∀ f, 1 ≤ f → f < i → t.1 396 f = nI 0) ∧ oz_fr (fun p => p = 396) s t) (fun f i t => f_Mod_filled_15 (nI set) f (nI i) (oz_md t a)) (fun t => oz_md t a) (by
        intro f t ht
        simp (disch := first | assumption | omega) only [f_Mod_filled_15, lf_lt, Option.bind_some, nI_add, pk_mul, oz_sub, oz_addm1, oz_div, oz_mod, oz_ck, oz_nz, oz_le_t, oz_le_f, oz_lt_t, oz_lt_f, oz_eq_t, oz_eq_f, oz_eqm1, oz_m1eq, oz_neg1, oz_m1lt, oz_ltm1, oz_lem1, oz_m1le, oz_mx, oz_mn, if_true, if_false, ite_true, ite_false, oz_md_r, oz_md_o, oz_md_w, oz_md_wo, oz_md_2, Sum.elim_inl, Sum.elim_inr, pl_0, pl_1, pl_2, pl_3, pl_4, pl_5, pl_6, pl_7, pl_8, pl_9, pl_10, pl_11, pl_12, pl_13]) (by
        intro f i t hi ht
        refine ⟨lf_w t 396 i (nI 0), ⟨?_, oz_fr_tr ht.2 (oz_fr_w rfl)⟩, ?_⟩
        · intro j h1 h2
          by_cases e : j = i
          · subst e; exact oz_w_s
          · rw [oz_w_n e]; exact ht.1 j h1 (by omega)
        · simp (disch := first | assumption | omega) only [f_Mod_filled_15, lf_lt, Option.bind_some, nI_add, pk_mul, oz_sub, oz_addm1, oz_div, oz_mod, oz_ck, oz_nz, oz_le_t, oz_le_f, oz_lt_t, oz_lt_f, oz_eq_t, oz_eq_f, oz_eqm1, oz_m1eq, oz_neg1, oz_m1lt, oz_ltm1, oz_lem1, oz_m1le, oz_mx, oz_mn, if_true, if_false, ite_true, ite_false, oz_md_r, oz_md_o, oz_md_w, oz_md_wo, oz_md_2, Sum.elim_inl, Sum.elim_inr, pl_0, pl_1, pl_2, pl_3, pl_4, pl_5, pl_6, pl_7, pl_8, pl_9, pl_10, pl_11, pl_12, pl_13]) 6 1 5000 s (by omega) (by omega) ⟨fun f h1 h2 => by omega, oz_fr_rf⟩
    obtain ⟨t2, k2, g2⟩ := oz_forE (N := a 6) (fun i (x : lf_S × Nat) => x.2 = oz_sum (fun o => if set.testBit o then oz_pays a o else 0) i ∧ (∀ f, 1 ≤ f → f ≤ 6 → x.1.1 396 f = nI (oz_ned a set i f)) ∧ oz_fr (fun p => p = 396) s x.1) (fun f i x => f_Mod_filled_38 (nI set) f (nI x.2) (nI i) (oz_md x.1 a)) (fun x => (nI x.2, oz_md x.1 a)) (by
        intro f x hx
        simp (disch := first | assumption | omega) only [f_Mod_filled_38, lf_lt, Option.bind_some, nI_add, pk_mul, oz_sub, oz_addm1, oz_div, oz_mod, oz_ck, oz_nz, oz_le_t, oz_le_f, oz_lt_t, oz_lt_f, oz_eq_t, oz_eq_f, oz_eqm1, oz_m1eq, oz_neg1, oz_m1lt, oz_ltm1, oz_lem1, oz_m1le, oz_mx, oz_mn, if_true, if_false, ite_true, ite_false, oz_md_r, oz_md_o, oz_md_w, oz_md_wo, oz_md_2, Sum.elim_inl, Sum.elim_inr, pl_0, pl_1, pl_2, pl_3, pl_4, pl_5, pl_6, pl_7, pl_8, pl_9, pl_10, pl_11, pl_12, pl_13]) (by
        intro f i x hi hx
        obtain ⟨x1, x2⟩ := x
        obtain ⟨hx1, hx2, hx3⟩ := hx
        dsimp only at hx1 hx2 hx3 ⊢
        have hr := oz_rods_le V hi
        have e1 : ∀ f, oz_ned a set (i + 1) f = oz_ned a set i f + (if set.testBit i then (if oz_feet a i = f then oz_rods a i else 0) else 0) := fun f => rfl
        have e2 : oz_sum (fun o => if set.testBit o then oz_pays a o else 0) (i + 1) = oz_sum (fun o => if set.testBit o then oz_pays a o else 0) i + (if set.testBit i then oz_pays a i else 0) := rfl
        have hn := oz_ned_le V (set := set) (f := oz_feet a i) (n := i) (by omega)
        cases ct : set.testBit i with
        | true =>
          refine ⟨(lf_w x1 396 (oz_feet a i) (nI (oz_ned a set i (oz_feet a i) + oz_rods a i)), x2 + oz_pays a i), ⟨?_, ?_, oz_fr_tr hx3 (oz_fr_w rfl)⟩, ?_⟩
          · rw [e2, ct, if_pos rfl, hx1]
          · intro g h1 h2
            rw [e1, ct, if_pos rfl]
            by_cases e : g = oz_feet a i
            · subst e; rw [if_pos rfl]; exact oz_w_s
            · rw [if_neg (fun z => e z.symm), Nat.add_zero]
              exact (oz_w_n e).trans (hx2 g h1 h2)
          · simp (disch := first | assumption | omega) only [f_Mod_filled_38, lf_lt, Option.bind_some, nI_add, pk_mul, oz_sub, oz_addm1, oz_div, oz_mod, oz_ck, oz_nz, oz_le_t, oz_le_f, oz_lt_t, oz_lt_f, oz_eq_t, oz_eq_f, oz_eqm1, oz_m1eq, oz_neg1, oz_m1lt, oz_ltm1, oz_lem1, oz_m1le, oz_mx, oz_mn, if_true, if_false, ite_true, ite_false, oz_md_r, oz_md_o, oz_md_w, oz_md_wo, oz_md_2, Sum.elim_inl, Sum.elim_inr, pl_0, pl_1, pl_2, pl_3, pl_4, pl_5, pl_6, pl_7, pl_8, pl_9, pl_10, pl_11, pl_12, pl_13, m_isOf, ct, m_feetOf V hi, m_rodsOf V hi, m_paysOf V hi, hx2 (oz_feet a i) hr.2.2.1 hr.2.2.2]
        | false =>
          refine ⟨(x1, x2), ⟨?_, ?_, hx3⟩, ?_⟩
          · rw [e2, ct, if_neg (by simp), hx1]; rfl
          · intro g h1 h2
            rw [e1, ct, if_neg (by simp), Nat.add_zero]
            exact hx2 g h1 h2
          · simp (disch := first | assumption | omega) only [f_Mod_filled_38, lf_lt, Option.bind_some, nI_add, pk_mul, oz_sub, oz_addm1, oz_div, oz_mod, oz_ck, oz_nz, oz_le_t, oz_le_f, oz_lt_t, oz_lt_f, oz_eq_t, oz_eq_f, oz_eqm1, oz_m1eq, oz_neg1, oz_m1lt, oz_ltm1, oz_lem1, oz_m1le, oz_mx, oz_mn, if_true, if_false, ite_true, ite_false, oz_md_r, oz_md_o, oz_md_w, oz_md_wo, oz_md_2, Sum.elim_inl, Sum.elim_inr, pl_0, pl_1, pl_2, pl_3, pl_4, pl_5, pl_6, pl_7, pl_8, pl_9, pl_10, pl_11, pl_12, pl_13, m_isOf, ct]
            rw [if_neg (by simp)]) (a 6) 0 5000 (t1, 0) (by omega) (by omega) ⟨rfl, fun f h1 h2 => (g1.1 f h1 (by omega)), g1.2⟩
    obtain ⟨t2, p2⟩ := t2
    obtain ⟨g3, g4, g5⟩ := g2
    dsimp only at k1 k2 g3 g4 g5
    have k3 := (oz_forI (N := 6) (fun i x => x = if (oz_fst (fun f => decide (oz_sto a f < oz_ned a set (a 6) f)) 1 i).isNone then 1 else 0) (fun f i (x : Nat) => f_Mod_filled_97 (nI p2) f (nI x) (nI (i + 1)) (oz_md t2 a)) (fun i x => if x = 0 then 0 else if oz_sto a (i + 1) < oz_ned a set (a 6) (i + 1) then 0 else 1) (fun x => (nI x, oz_md t2 a)) 1 rfl (by
        intro i x hi hx
        rw [oz_fst_succ i 1, Nat.add_comm 1 i]
        subst hx
        cases oz_fst (fun f => decide (oz_sto a f < oz_ned a set (a 6) f)) 1 i with
        | some v => simp
        | none =>
          by_cases cc : oz_sto a (i + 1) < oz_ned a set (a 6) (i + 1)
          · simp [cc]
          · simp [cc]) (by
        intro f x hx
        simp (disch := first | assumption | omega) only [f_Mod_filled_97, lf_lt, Option.bind_some, nI_add, pk_mul, oz_sub, oz_addm1, oz_div, oz_mod, oz_ck, oz_nz, oz_le_t, oz_le_f, oz_lt_t, oz_lt_f, oz_eq_t, oz_eq_f, oz_eqm1, oz_m1eq, oz_neg1, oz_m1lt, oz_ltm1, oz_lem1, oz_m1le, oz_mx, oz_mn, if_true, if_false, ite_true, ite_false, oz_md_r, oz_md_o, oz_md_w, oz_md_wo, oz_md_2, Sum.elim_inl, Sum.elim_inr, pl_0, pl_1, pl_2, pl_3, pl_4, pl_5, pl_6, pl_7, pl_8, pl_9, pl_10, pl_11, pl_12, pl_13]) (by
        intro f i x hi hx
        have hst := oz_v5 V (f := i + 1) (by omega) (by omega)
        have hn := oz_ned_le V (set := set) (f := i + 1) (n := a 6) (by omega)
        by_cases cx : x = 0
        · subst cx
          simp (disch := first | assumption | omega) only [f_Mod_filled_97, lf_lt, Option.bind_some, nI_add, pk_mul, oz_sub, oz_addm1, oz_div, oz_mod, oz_ck, oz_nz, oz_le_t, oz_le_f, oz_lt_t, oz_lt_f, oz_eq_t, oz_eq_f, oz_eqm1, oz_m1eq, oz_neg1, oz_m1lt, oz_ltm1, oz_lem1, oz_m1le, oz_mx, oz_mn, if_true, if_false, ite_true, ite_false, oz_md_r, oz_md_o, oz_md_w, oz_md_wo, oz_md_2, Sum.elim_inl, Sum.elim_inr, pl_0, pl_1, pl_2, pl_3, pl_4, pl_5, pl_6, pl_7, pl_8, pl_9, pl_10, pl_11, pl_12, pl_13]
        · have hx1 : x = 1 := by
            rw [hx] at cx ⊢
            split at cx
            · rw [if_pos (by assumption)]
            · exact absurd rfl cx
          subst hx1
          simp (disch := first | assumption | omega) only [f_Mod_filled_97, lf_lt, Option.bind_some, nI_add, pk_mul, oz_sub, oz_addm1, oz_div, oz_mod, oz_ck, oz_nz, oz_le_t, oz_le_f, oz_lt_t, oz_lt_f, oz_eq_t, oz_eq_f, oz_eqm1, oz_m1eq, oz_neg1, oz_m1lt, oz_ltm1, oz_lem1, oz_m1le, oz_mx, oz_mn, if_true, if_false, ite_true, ite_false, oz_md_r, oz_md_o, oz_md_w, oz_md_wo, oz_md_2, Sum.elim_inl, Sum.elim_inr, pl_0, pl_1, pl_2, pl_3, pl_4, pl_5, pl_6, pl_7, pl_8, pl_9, pl_10, pl_11, pl_12, pl_13, m_stored, g4 (i + 1) (by omega) (by omega)]
          by_cases cc : oz_sto a (i + 1) < oz_ned a set (a 6) (i + 1)
          · rw [if_pos cc, oz_ilt_t cc (by omega), if_neg (by omega)]
          · rw [if_neg cc, oz_ilt_f (by omega) (by omega), if_neg (by omega)]) 5000 (by omega))
    obtain ⟨k4, k5⟩ := k3
    refine ⟨t2, ?_, g5⟩
    try dsimp only at k4
    rw [show (0 : Nat) + 1 = 1 from rfl] at k4
    simp only [lf_lt, pl_0, pl_1, k1, Option.bind_some, k2, k4]
    rw [k5]
    unfold oz_can
    rw [decide_eq_true c, Bool.true_and, g3]
    cases oz_fst (fun f => decide (oz_sto a f < oz_ned a set (a 6) f)) 1 6 with
    | none =>
      show (if nI (if true = true then 1 else 0) = nI 0 then _ else _) = _
      rw [if_neg (by decide +kernel)]; rfl
    | some v =>
      show (if nI (if false = true then 1 else 0) = nI 0 then _ else _) = _
      rw [if_pos (by decide +kernel)]; rfl
  · rw [if_neg (by rw [oz_subset set hs _ ho]; exact c)]
    refine ⟨s, ?_, oz_fr_rf⟩
    unfold oz_can
    rw [decide_eq_false c]; rfl
theorem oz_m1sub {b : Nat} (hb : b < 1073741824) : ((0 : Int32) < oz_N - nI b) = False ∧ (oz_N - nI b = 0) = False := by
  have e : (oz_N - nI b).toInt = -1 - (b : Int) := by
    rw [Int32.toInt_sub, oz_m1_ti, oz_ti (by omega)]
    exact Int.bmod_eq_of_le (by omega) (by omega)
  refine ⟨eq_false (fun h => ?_), eq_false (fun h => ?_)⟩
  · rw [Int32.lt_iff_toInt_lt, e, show ((0 : Int32)).toInt = 0 by decide +kernel] at h
    omega
  · have h1 := congrArg Int32.toInt h
    rw [e, show ((0 : Int32)).toInt = 0 by decide +kernel] at h1
    omega
theorem m_mostFilled (V : oz_V a) : ∃ t, f_Mod_mostFilled (oz_md s a) = some (nI (oz_fills a), oz_md t a) ∧ oz_fr (fun p => p = 396) s t := by
  have h0 := oz_v0 V
  unfold oz_V0 at h0
  have hp := oz_p64 (n := a 6) (by omega)
  have hp0 := Nat.two_pow_pos (a 6)
  obtain ⟨t1, k1, g1⟩ := oz_forE (N := 2 ^ a 6 - 1) (fun i (x : lf_S × Nat) => x.2 = oz_best (oz_psum a) (oz_can a) i ∧ oz_fr (fun p => p = 396) s x.1) (fun f i x => f_Mod_mostFilled_4 f (nI x.2) (nI (i + 1)) (oz_md x.1 a)) (fun x => (nI x.2, oz_md x.1 a)) (by
      intro f x hx
      simp (disch := first | assumption | omega) only [f_Mod_mostFilled_4, lf_lt, Option.bind_some, nI_add, pk_mul, oz_sub, oz_addm1, oz_div, oz_mod, oz_ck, oz_nz, oz_le_t, oz_le_f, oz_lt_t, oz_lt_f, oz_eq_t, oz_eq_f, oz_eqm1, oz_m1eq, oz_neg1, oz_m1lt, oz_ltm1, oz_lem1, oz_m1le, oz_mx, oz_mn, if_true, if_false, ite_true, ite_false, oz_md_r, oz_md_o, oz_md_w, oz_md_wo, oz_md_2, Sum.elim_inl, Sum.elim_inr, pl_0, pl_1, pl_2, pl_3, pl_4, pl_5, pl_6, pl_7, pl_8, pl_9, pl_10, pl_11, pl_12, pl_13, pl_31, oz_shl1]) (by
      intro f i x hi hx
      obtain ⟨x1, x2⟩ := x
      obtain ⟨hx1, hx2⟩ := hx
      dsimp only at hx1 hx2 ⊢
      have hb := oz_best_lt (val := oz_psum a) (ok := oz_can a) i
      have hok := oz_best_ok (val := oz_psum a) (ok := oz_can a) (oz_can_0 V) i
      rw [← hx1] at hb hok
      obtain ⟨u1, l1, f1⟩ := m_filled (s := x1) V (set := i + 1) (by omega)
      obtain ⟨u2, l2, f2⟩ := m_filled (s := u1) V (set := x2) (by omega)
      have g1 := oz_psum_le V (set := i + 1) (a 6) (Nat.le_refl _)
      have g2 := oz_psum_le V (set := x2) (a 6) (Nat.le_refl _)
      have c1 := oz_cnt_le (x := i + 1) (n := 31)
      have c2 := oz_cnt_le (x := x2) (n := 31)
      rw [hok, if_pos rfl] at l2
      change oz_psum a (i + 1) ≤ 5346 at g1
      change oz_psum a x2 ≤ 5346 at g2
      refine ⟨(u2, oz_bst (oz_psum a) (oz_can a) (i + 1) x2), ⟨by rw [hx1]; rfl, oz_fr_tr hx2 (oz_fr_tr f1 f2)⟩, ?_⟩
      rw [f_Mod_mostFilled_4]
      simp (disch := first | assumption | omega) only [lf_lt, Option.bind_some, pl_1, oz_neg1, pl_6, pl_31, oz_ck, oz_md_r, oz_shl1, oz_le_f, if_false, l1, l2, m_bits, nI_add, oz_bst]
      cases co : oz_can a (i + 1) with
      | false =>
        have e3 : (if false = true then nI (oz_psum a (i + 1)) else oz_N) = oz_N := rfl
        simp only [e3, (oz_m1sub (b := oz_psum a x2) (by omega)).1, (oz_m1sub (b := oz_psum a x2) (by omega)).2, if_false]
        rw [if_neg (fun z => by cases z.2)]
      | true =>
        simp (disch := first | assumption | omega) only [if_true, oz_subpos, oz_sub0]
        by_cases d1 : oz_psum a x2 < oz_psum a (i + 1)
        · rw [if_pos d1, if_pos ⟨Or.inl d1, trivial⟩]
        · rw [if_neg d1]
          by_cases d2 : oz_psum a (i + 1) = oz_psum a x2
          · rw [if_pos d2]
            by_cases d3 : oz_cnt (i + 1) 31 < oz_cnt x2 31
            · rw [oz_ile_f d3 (by omega), if_pos ⟨Or.inr ⟨d2, d3⟩, trivial⟩]
            · rw [oz_ile_t (by omega) (by omega), if_neg (fun z => by omega)]
          · rw [if_neg d2, if_neg (fun z => by omega)]) (2 ^ a 6 - 1) 0 5000 (s, 0) (by omega) (by omega) ⟨rfl, oz_fr_rf⟩
  obtain ⟨t1, p1⟩ := t1
  obtain ⟨g2, g3⟩ := g1
  dsimp only at k1 g2 g3
  refine ⟨t1, ?_, g3⟩
  unfold f_Mod_mostFilled
  simp only [lf_lt, pl_0, pl_1, Nat.zero_add] at k1 ⊢
  simp only [k1, Option.bind_some, g2]; rfl
theorem c_payOf (V : oz_V a) (C : oz_C s b a) {set : Nat} (hs : set < 64) : f_Holt_payOf b (nI set) s = some (nI (oz_psum a set)) := by
  have h0 := oz_v0 V
  unfold oz_V0 at h0
  have key := oz_for (N := a 6) (fun f i (x : Nat) => f_Holt_payOf_4 b (nI set) f (nI x) (nI i) s) (fun i x => x + if set.testBit i then oz_pays a i else 0) nI 0 (by
      intro f x
      simp (disch := first | assumption | omega) only [f_Holt_payOf_4, lf_lt, Option.bind_some, nI_add, pk_mul, oz_sub, oz_addm1, oz_div, oz_mod, oz_ck, oz_nz, oz_le_t, oz_le_f, oz_lt_t, oz_lt_f, oz_eq_t, oz_eq_f, oz_eqm1, oz_m1eq, oz_neg1, oz_m1lt, oz_ltm1, oz_lem1, oz_m1le, oz_mx, oz_mn, if_true, if_false, ite_true, ite_false, oz_md_r, oz_md_o, oz_md_w, oz_md_wo, oz_md_2, Sum.elim_inl, Sum.elim_inr, pl_0, pl_1, pl_2, pl_3, pl_4, pl_5, pl_6, pl_7, pl_8, pl_9, pl_10, pl_11, pl_12, pl_13, o_0 C.2.2.2.2.1]) (by
      intro f i x hi
      simp (disch := first | assumption | omega) only [f_Holt_payOf_4, lf_lt, Option.bind_some, nI_add, pk_mul, oz_sub, oz_addm1, oz_div, oz_mod, oz_ck, oz_nz, oz_le_t, oz_le_f, oz_lt_t, oz_lt_f, oz_eq_t, oz_eq_f, oz_eqm1, oz_m1eq, oz_neg1, oz_m1lt, oz_ltm1, oz_lem1, oz_m1le, oz_mx, oz_mn, if_true, if_false, ite_true, ite_false, oz_md_r, oz_md_o, oz_md_w, oz_md_wo, oz_md_2, Sum.elim_inl, Sum.elim_inr, pl_0, pl_1, pl_2, pl_3, pl_4, pl_5, pl_6, pl_7, pl_8, pl_9, pl_10, pl_11, pl_12, pl_13, pl_31, o_0 C.2.2.2.2.1, oz_bit_eq, c_payFor V C hi]
      cases set.testBit i <;> rfl) 5000 (by omega)
  rw [oz_it_sum (f := fun o => if set.testBit o then oz_pays a o else 0)] at key
  unfold f_Holt_payOf
  try dsimp only at key
  simp only [lf_lt, pl_0, key, Option.bind_some]; rfl
theorem c_canFill (V : oz_V a) (C : oz_C s b a) {set : Nat} (hs : set < 64) : f_Holt_canFill b (nI set) s = some (oz_can a set) := by
  have h0 := oz_v0 V
  unfold oz_V0 at h0
  have ho := oz_opens_lt V
  have hand : set &&& oz_opens a < 64 := Nat.lt_of_le_of_lt Nat.and_le_left hs
  unfold f_Holt_canFill oz_can
  rw [o_o C.2.2.2.2.1, oz_bvand (by omega) (by omega)]
  simp (disch := first | assumption | omega) only [oz_eq]
  by_cases c : set &&& oz_opens a = set
  · rw [if_pos c, decide_eq_true c, Bool.true_and]
    have inner : ∀ g, 1 ≤ g → g ≤ 6 → f_Holt_canFill_28 b (nI set) (nI g) 5000 (nI 0) (nI 0) s = some (nI (oz_ned a set (a 6) g)) := by
      intro g hg1 hg2
      have key := oz_for (N := a 6) (fun f i (x : Nat) => f_Holt_canFill_28 b (nI set) (nI g) f (nI x) (nI i) s) (fun i x => x + if set.testBit i then (if oz_feet a i = g then oz_rods a i else 0) else 0) nI 0 (by
          intro f x
          simp (disch := first | assumption | omega) only [f_Holt_canFill_28, lf_lt, Option.bind_some, nI_add, pk_mul, oz_sub, oz_addm1, oz_div, oz_mod, oz_ck, oz_nz, oz_le_t, oz_le_f, oz_lt_t, oz_lt_f, oz_eq_t, oz_eq_f, oz_eqm1, oz_m1eq, oz_neg1, oz_m1lt, oz_ltm1, oz_lem1, oz_m1le, oz_mx, oz_mn, if_true, if_false, ite_true, ite_false, oz_md_r, oz_md_o, oz_md_w, oz_md_wo, oz_md_2, Sum.elim_inl, Sum.elim_inr, pl_0, pl_1, pl_2, pl_3, pl_4, pl_5, pl_6, pl_7, pl_8, pl_9, pl_10, pl_11, pl_12, pl_13, o_0 C.2.2.2.2.1]) (by
          intro f i x hi
          have hr := oz_rods_le V hi
          simp (disch := first | assumption | omega) only [f_Holt_canFill_28, lf_lt, Option.bind_some, nI_add, pk_mul, oz_sub, oz_addm1, oz_div, oz_mod, oz_ck, oz_nz, oz_le_t, oz_le_f, oz_lt_t, oz_lt_f, oz_eq_t, oz_eq_f, oz_eqm1, oz_m1eq, oz_neg1, oz_m1lt, oz_ltm1, oz_lem1, oz_m1le, oz_mx, oz_mn, if_true, if_false, ite_true, ite_false, oz_md_r, oz_md_o, oz_md_w, oz_md_wo, oz_md_2, Sum.elim_inl, Sum.elim_inr, pl_0, pl_1, pl_2, pl_3, pl_4, pl_5, pl_6, pl_7, pl_8, pl_9, pl_10, pl_11, pl_12, pl_13, pl_31, o_0 C.2.2.2.2.1, oz_bit_eq, c_feetFor V C hi, c_rodsFor V C hi]
          cases set.testBit i with
          | false => rw [if_neg (by simp), if_neg (by simp)]; rfl
          | true =>
            rw [if_pos rfl, if_pos rfl]
            by_cases e : oz_feet a i = g
            · rw [if_pos (by rw [e]), if_pos e]
            · rw [if_neg (by rw [oz_eq (by omega) (by omega)]; exact e), if_neg e]; rfl) 5000 (by omega)
      rw [oz_it_sum (f := fun o => if set.testBit o then (if oz_feet a o = g then oz_rods a o else 0) else 0)] at key
      exact key
    have key := oz_searchF (N := 7) (i0 := 1) (fun f i => f_Holt_canFill_17 b (nI set) f (nI i) s) (fun g => decide (oz_sto a g < oz_ned a set (a 6) g)) (Sum.inl ()) (fun _ => Sum.inr false) (by
        intro f
        simp (disch := first | assumption | omega) only [f_Holt_canFill_17, lf_lt, Option.bind_some, nI_add, pk_mul, oz_sub, oz_addm1, oz_div, oz_mod, oz_ck, oz_nz, oz_le_t, oz_le_f, oz_lt_t, oz_lt_f, oz_eq_t, oz_eq_f, oz_eqm1, oz_m1eq, oz_neg1, oz_m1lt, oz_ltm1, oz_lem1, oz_m1le, oz_mx, oz_mn, if_true, if_false, ite_true, ite_false, oz_md_r, oz_md_o, oz_md_w, oz_md_wo, oz_md_2, Sum.elim_inl, Sum.elim_inr, pl_0, pl_1, pl_2, pl_3, pl_4, pl_5, pl_6, pl_7, pl_8, pl_9, pl_10, pl_11, pl_12, pl_13]) (by
        intro f i hi1 hi
        have hst := oz_v5 V (f := i) (by omega) (by omega)
        have hn := oz_ned_le V (set := set) (f := i) (n := a 6) (by omega)
        simp (disch := first | assumption | omega) only [f_Holt_canFill_17, lf_lt, Option.bind_some, nI_add, pk_mul, oz_sub, oz_addm1, oz_div, oz_mod, oz_ck, oz_nz, oz_le_t, oz_le_f, oz_lt_t, oz_lt_f, oz_eq_t, oz_eq_f, oz_eqm1, oz_m1eq, oz_neg1, oz_m1lt, oz_ltm1, oz_lem1, oz_m1le, oz_mx, oz_mn, if_true, if_false, ite_true, ite_false, oz_md_r, oz_md_o, oz_md_w, oz_md_wo, oz_md_2, Sum.elim_inl, Sum.elim_inr, pl_0, pl_1, pl_2, pl_3, pl_4, pl_5, pl_6, pl_7, pl_8, pl_9, pl_10, pl_11, pl_12, pl_13, inner i (by omega) (by omega), C.2.2.2.2.2.2 i (by omega) (by omega)]
        by_cases cc : oz_sto a i < oz_ned a set (a 6) i
        · rw [oz_ile_f cc (by omega), if_pos (by simp [cc])]
        · rw [oz_ile_t (by omega) (by omega), if_neg (by simp [cc])]) 6 1 5000 (by omega) (by omega) (by omega)
    try dsimp only at key
    simp only [lf_lt, pl_1, key, Option.bind_some]
    cases oz_fst (fun g => decide (oz_sto a g < oz_ned a set (a 6) g)) 1 6 <;> rfl
  · rw [if_neg c, decide_eq_false c]; rfl
theorem c_bestFills (V : oz_V a) (C : oz_C s b a) : f_Holt_bestFills b s = some (nI (oz_fills a)) := by
  have h0 := oz_v0 V
  unfold oz_V0 at h0
  have hp := oz_p64 (n := a 6) (by omega)
  have hp0 := Nat.two_pow_pos (a 6)
  have key := (oz_forI (N := 2 ^ a 6 - 1) (fun i x => x < i + 1) (fun f i (x : Nat) => f_Holt_bestFills_4 b f (nI x) (nI (i + 1)) s) (fun i x => oz_bst (oz_psum a) (oz_can a) (i + 1) x) nI 0 (by decide) (by
      intro i x hi hx
      try dsimp only
      unfold oz_bst
      split <;> omega) (by
      intro f x hx
      simp (disch := first | assumption | omega) only [f_Holt_bestFills_4, lf_lt, Option.bind_some, nI_add, pk_mul, oz_sub, oz_addm1, oz_div, oz_mod, oz_ck, oz_nz, oz_le_t, oz_le_f, oz_lt_t, oz_lt_f, oz_eq_t, oz_eq_f, oz_eqm1, oz_m1eq, oz_neg1, oz_m1lt, oz_ltm1, oz_lem1, oz_m1le, oz_mx, oz_mn, if_true, if_false, ite_true, ite_false, oz_md_r, oz_md_o, oz_md_w, oz_md_wo, oz_md_2, Sum.elim_inl, Sum.elim_inr, pl_0, pl_1, pl_2, pl_3, pl_4, pl_5, pl_6, pl_7, pl_8, pl_9, pl_10, pl_11, pl_12, pl_13, pl_31, o_0 C.2.2.2.2.1, oz_shl1]) (by
      intro f i x hi hx
      have g1 := oz_psum_le V (set := i + 1) (a 6) (Nat.le_refl _)
      have g2 := oz_psum_le V (set := x) (a 6) (Nat.le_refl _)
      change oz_psum a (i + 1) ≤ 5346 at g1
      change oz_psum a x ≤ 5346 at g2
      have c1 := oz_cnt_le (x := i + 1) (n := 31)
      have c2 := oz_cnt_le (x := x) (n := 31)
      rw [f_Holt_bestFills_4]
      simp (disch := first | assumption | omega) only [lf_lt, Option.bind_some, pl_1, pl_31, o_0 C.2.2.2.2.1, oz_shl1, oz_le_f, if_false, c_payOf V C, c_canFill V C, oz_subpos, oz_sub0, oz_bitCount, nI_add, oz_bst]
      have e10 : (nI 1 = (0 : Int32)) = False := eq_false (by decide +kernel)
      have e00 : ((0 : Int32) = 0) = True := eq_true rfl
      simp only [e10, e00, if_false, if_true]
      by_cases d1 : oz_psum a x < oz_psum a (i + 1)
      · rw [if_pos d1]
        cases co : oz_can a (i + 1) with
        | true => rw [if_pos rfl, if_pos ⟨Or.inl d1, rfl⟩]
        | false => rw [if_neg (by simp), if_neg (fun z => by cases z.2)]
      · rw [if_neg d1]
        by_cases d2 : oz_psum a (i + 1) = oz_psum a x
        · rw [if_pos d2]
          by_cases d3 : oz_cnt (i + 1) 31 < oz_cnt x 31
          · rw [oz_ile_f d3 (by omega)]
            cases co : oz_can a (i + 1) with
            | true => rw [if_pos rfl, if_pos ⟨Or.inr ⟨d2, d3⟩, rfl⟩]
            | false => rw [if_neg (by simp), if_neg (fun z => by cases z.2)]
          · rw [oz_ile_t (by omega) (by omega), if_neg (fun z => by omega)]
        · rw [if_neg d2, if_neg (fun z => by omega)]) 5000 (by omega)).1
  unfold f_Holt_bestFills
  try dsimp only at key
  simp only [lf_lt, pl_0, pl_1, Nat.zero_add] at key ⊢
  simp only [key, Option.bind_some]; rfl
end
