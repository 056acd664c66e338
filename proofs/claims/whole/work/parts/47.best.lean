/-! ===== the best years, the best orders ===== -/
def oz_fr (P : Nat → Prop) (s s' : lf_S) : Prop := (∀ p, ¬ P p → s'.1 p = s.1 p) ∧ s'.2 = s.2
theorem oz_fr_rf {P : Nat → Prop} {s : lf_S} : oz_fr P s s := ⟨fun _ _ => rfl, rfl⟩
theorem oz_fr_tr {P : Nat → Prop} {s t u : lf_S} (h : oz_fr P s t) (k : oz_fr P t u) : oz_fr P s u := ⟨fun p hp => (k.1 p hp).trans (h.1 p hp), k.2.trans h.2⟩
theorem oz_fr_w {P : Nat → Prop} {s : lf_S} {a i : Nat} {v : Int32} (h : P a) : oz_fr P s (lf_w s a i v) := ⟨fun p hp => by
  show (if p = a then _ else _) = _
  rw [if_neg (fun e : p = a => hp (by rw [e]; exact h))], rfl⟩
theorem oz_fr_mono {P Q : Nat → Prop} {s t : lf_S} (h : oz_fr P s t) (k : ∀ p, P p → Q p) : oz_fr Q s t := ⟨fun p hp => h.1 p (fun z => hp (k p z)), h.2⟩
theorem oz_w_s {s : lf_S} {a i : Nat} {v : Int32} : (lf_w s a i v).1 a i = v := by
  show (if a = a then upd (s.1 a) i v else s.1 a) i = v
  rw [if_pos rfl]; exact pk_us
theorem oz_w_n {s : lf_S} {a i j : Nat} {v : Int32} (h : j ≠ i) : (lf_w s a i v).1 a j = s.1 a j := by
  show (if a = a then upd (s.1 a) i v else s.1 a) j = _
  rw [if_pos rfl]; exact pk_un h
theorem oz_w_o {s : lf_S} {a b i : Nat} {v : Int32} (h : b ≠ a) : (lf_w s a i v).1 b = s.1 b := if_neg h
theorem oz_bitCount : ∀ x, x < 64 → f_JInt_bitCount (nI x) = some (nI (oz_cnt x 31)) := by decide +kernel
theorem oz_subpos {a b : Nat} (ha : a < 1073741824) (hb : b < 1073741824) : ((0 : Int32) < nI a - nI b) = (b < a) := by
  rw [Int32.lt_iff_toInt_lt, pk_sub_toInt ha hb, show ((0 : Int32)).toInt = 0 by decide +kernel]
  exact propext ⟨fun h => by omega, fun h => by omega⟩
theorem oz_sub0 {a b : Nat} (ha : a < 1073741824) (hb : b < 1073741824) : (nI a - nI b = (0 : Int32)) = (a = b) := by
  apply propext
  constructor
  · intro h
    have h1 := congrArg Int32.toInt h
    rw [pk_sub_toInt ha hb, show ((0 : Int32)).toInt = 0 by decide +kernel] at h1
    omega
  · intro h
    subst h
    apply Int32.toInt_inj.mp
    rw [pk_sub_toInt ha hb, show ((0 : Int32)).toInt = 0 by decide +kernel]
    omega
theorem oz_it_shift {σ : Type} {f : Nat → σ → σ} {n : Nat} {x : σ} : oz_it f (n + 1) x = oz_it (fun i => f (i + 1)) n (f 0 x) := by
  induction n with
  | zero => rfl
  | succ n ih => show f (n + 1) (oz_it f (n + 1) x) = _; rw [ih]; rfl
/-- one more set is looked at -/
def oz_bst (val : Nat → Nat) (ok : Nat → Bool) (i x : Nat) : Nat := if (val x < val i ∨ (val i = val x ∧ oz_cnt i 31 < oz_cnt x 31)) ∧ ok i = true then i else x
def oz_best (val : Nat → Nat) (ok : Nat → Bool) (n : Nat) : Nat := oz_it (fun i x => oz_bst val ok (i + 1) x) n 0
theorem oz_best_lt {val : Nat → Nat} {ok : Nat → Bool} : ∀ n, oz_best val ok n < n + 1 := by
  intro n
  induction n with
  | zero => exact Nat.one_pos
  | succ n ih =>
    show oz_bst val ok (n + 1) (oz_best val ok n) < n + 2
    unfold oz_bst
    split <;> omega
theorem oz_best_ok {val : Nat → Nat} {ok : Nat → Bool} (h0 : ok 0 = true) : ∀ n, ok (oz_best val ok n) = true := by
  intro n
  induction n with
  | zero => exact h0
  | succ n ih =>
    show ok (oz_bst val ok (n + 1) (oz_best val ok n)) = true
    unfold oz_bst
    split
    · rename_i h; exact h.2
    · exact ih
/-- feet of a bed cut in a set of years -/
def oz_gs (a : Nat → Nat) (b set i : Nat) (x : Nat × Nat) : Nat × Nat := if set.testBit i then (0, x.2 + 2 * oz_bed a b 2 * min (min (x.1 + 1) 9) 6) else (min (x.1 + 1) 9, x.2)
def oz_gain (a : Nat → Nat) (b n set : Nat) : Nat := (oz_it (oz_gs a b set) n (oz_bed a b 1, 0)).2
def oz_cuts (a : Nat → Nat) (b n : Nat) : Nat := oz_best (oz_gain a b n) (fun _ => true) (2 ^ n - 1)
section
variable {s : lf_S} {q : Nat} {a : Nat → Nat} {b : Nat}
theorem oz_gs_le (V : oz_V a) (h : b < a 3) {set i : Nat} {x : Nat × Nat} (hx : x.1 ≤ 9 ∧ x.2 ≤ i * 1188) : (oz_gs a b set i x).1 ≤ 9 ∧ (oz_gs a b set i x).2 ≤ (i + 1) * 1188 := by
  have h1 := oz_v1 V h
  unfold oz_V1 at h1
  have hm : 2 * oz_bed a b 2 * min (min (x.1 + 1) 9) 6 ≤ 198 * 6 := Nat.mul_le_mul (by omega) (by omega)
  unfold oz_gs
  split
  · dsimp only; omega
  · dsimp only; omega
theorem oz_gain_le (V : oz_V a) (h : b < a 3) {n set : Nat} (hn : n ≤ 6) : oz_gain a b n set ≤ 7128 := by
  have h1 := oz_v1 V h
  unfold oz_V1 at h1
  have : ∀ m, (oz_it (oz_gs a b set) m (oz_bed a b 1, 0)).1 ≤ 9 ∧ (oz_it (oz_gs a b set) m (oz_bed a b 1, 0)).2 ≤ m * 1188 := by
    intro m
    induction m with
    | zero => exact ⟨by show oz_bed a b 1 ≤ 9; omega, Nat.le_refl _⟩
    | succ m ih => exact oz_gs_le V h ih
  have h2 := (this n).2
  unfold oz_gain
  omega
theorem m_gainBy (V : oz_V a) (h : b < a 3) {n set : Nat} (hn : n ≤ 6) (hs : set < 64) : f_Mod_gainBy (nI b) (nI n) (nI set) (oz_md s a) = some (nI (oz_gain a b n set)) := by
  have h0 := oz_v0 V
  unfold oz_V0 at h0
  have h1 := oz_v1 V h
  unfold oz_V1 at h1
  have key := (oz_forI (N := n) (fun i x => x.1 ≤ 9 ∧ x.2 ≤ i * 1188) (fun f i (x : Nat × Nat) => f_Mod_gainBy_14 (nI b) (nI n) (nI set) f (nI x.1) (nI x.2) (nI i) (oz_md s a)) (oz_gs a b set) (fun x => nI x.2) (oz_bed a b 1, 0) ⟨by dsimp only; omega, Nat.zero_le _⟩ (fun i x hi hx => oz_gs_le V h hx) (by
      intro f x hx
      simp (disch := first | assumption | omega) only [f_Mod_gainBy_14, lf_lt, Option.bind_some, nI_add, pk_mul, oz_sub, oz_addm1, oz_div, oz_mod, oz_ck, oz_nz, oz_le_t, oz_le_f, oz_lt_t, oz_lt_f, oz_eq_t, oz_eq_f, oz_eqm1, oz_m1eq, oz_m1lt, oz_ltm1, oz_lem1, oz_m1le, oz_mx, oz_mn, if_true, if_false, ite_true, ite_false, oz_md_r, oz_md_o, oz_md_w, oz_md_wo, oz_md_2, Sum.elim_inl, Sum.elim_inr, pl_0, pl_1, pl_2, pl_3, pl_4, pl_5, pl_6, pl_7, pl_8, pl_9, pl_10, pl_11, pl_12, pl_13]) (by
      intro f i x hi hx
      have hm : 2 * oz_bed a b 2 * min (min (x.1 + 1) 9) 6 ≤ 198 * 6 := Nat.mul_le_mul (by omega) (by omega)
      have e1 : min 9 (x.1 + 1) = min (x.1 + 1) 9 := Nat.min_comm _ _
      have e2 : min 6 (min (x.1 + 1) 9) = min (min (x.1 + 1) 9) 6 := Nat.min_comm _ _
      simp (disch := first | assumption | omega) only [f_Mod_gainBy_14, lf_lt, Option.bind_some, nI_add, pk_mul, oz_sub, oz_addm1, oz_div, oz_mod, oz_ck, oz_nz, oz_le_t, oz_le_f, oz_lt_t, oz_lt_f, oz_eq_t, oz_eq_f, oz_eqm1, oz_m1eq, oz_m1lt, oz_ltm1, oz_lem1, oz_m1le, oz_mx, oz_mn, if_true, if_false, ite_true, ite_false, oz_md_r, oz_md_o, oz_md_w, oz_md_wo, oz_md_2, Sum.elim_inl, Sum.elim_inr, pl_0, pl_1, pl_2, pl_3, pl_4, pl_5, pl_6, pl_7, pl_8, pl_9, pl_10, pl_11, pl_12, pl_13, m_lesser, m_isOf, m_ofBed, e1, e2, oz_gs]
      cases set.testBit i <;> rfl) 5000 (by omega)).1
  unfold f_Mod_gainBy
  try dsimp only at key
  simp (disch := first | assumption | omega) only [lf_lt, Option.bind_some, nI_add, pk_mul, oz_sub, oz_addm1, oz_div, oz_mod, oz_ck, oz_nz, oz_le_t, oz_le_f, oz_lt_t, oz_lt_f, oz_eq_t, oz_eq_f, oz_eqm1, oz_m1eq, oz_m1lt, oz_ltm1, oz_lem1, oz_m1le, oz_mx, oz_mn, if_true, if_false, ite_true, ite_false, oz_md_r, oz_md_o, oz_md_w, oz_md_wo, oz_md_2, Sum.elim_inl, Sum.elim_inr, pl_0, pl_1, pl_2, pl_3, pl_4, pl_5, pl_6, pl_7, pl_8, pl_9, pl_10, pl_11, pl_12, pl_13, m_ofBed, key]; rfl
theorem c_feetCut (V : oz_V a) (C : oz_CB s q a) (h : b < a 3) {n set : Nat} (hn : n ≤ 6) (hs : set < 64) : f_Beds_feetCut q (nI b) (nI n) (nI set) s = some (nI (oz_gain a b n set)) := by
  have h0 := oz_v0 V
  unfold oz_V0 at h0
  have h1 := oz_v1 V h
  unfold oz_V1 at h1
  have key := (oz_forI (N := n) (fun i x => x.1 ≤ 9 ∧ x.2 ≤ i * 1188) (fun f i (x : Nat × Nat) => f_Beds_feetCut_14 q (nI b) (nI n) (nI set) f (nI x.1) (nI x.2) (nI i) s) (oz_gs a b set) (fun x => nI x.2) (oz_bed a b 1, 0) ⟨by dsimp only; omega, Nat.zero_le _⟩ (fun i x hi hx => oz_gs_le V h hx) (by
      intro f x hx
      simp (disch := first | assumption | omega) only [f_Beds_feetCut_14, lf_lt, Option.bind_some, nI_add, pk_mul, oz_sub, oz_addm1, oz_div, oz_mod, oz_ck, oz_nz, oz_le_t, oz_le_f, oz_lt_t, oz_lt_f, oz_eq_t, oz_eq_f, oz_eqm1, oz_m1eq, oz_m1lt, oz_ltm1, oz_lem1, oz_m1le, oz_mx, oz_mn, if_true, if_false, ite_true, ite_false, oz_md_r, oz_md_o, oz_md_w, oz_md_wo, oz_md_2, Sum.elim_inl, Sum.elim_inr, pl_0, pl_1, pl_2, pl_3, pl_4, pl_5, pl_6, pl_7, pl_8, pl_9, pl_10, pl_11, pl_12, pl_13]) (by
      intro f i x hi hx
      have hm : 2 * oz_bed a b 2 * min (min (x.1 + 1) 9) 6 ≤ 198 * 6 := Nat.mul_le_mul (by omega) (by omega)
      simp (disch := first | assumption | omega) only [f_Beds_feetCut_14, lf_lt, Option.bind_some, nI_add, pk_mul, oz_sub, oz_addm1, oz_div, oz_mod, oz_ck, oz_nz, oz_le_t, oz_le_f, oz_lt_t, oz_lt_f, oz_eq_t, oz_eq_f, oz_eqm1, oz_m1eq, oz_m1lt, oz_ltm1, oz_lem1, oz_m1le, oz_mx, oz_mn, if_true, if_false, ite_true, ite_false, oz_md_r, oz_md_o, oz_md_w, oz_md_wo, oz_md_2, Sum.elim_inl, Sum.elim_inr, pl_0, pl_1, pl_2, pl_3, pl_4, pl_5, pl_6, pl_7, pl_8, pl_9, pl_10, pl_11, pl_12, pl_13, pl_31, b_3 C h, oz_bit_eq, oz_gs]
      cases set.testBit i <;> rfl) 5000 (by omega)).1
  unfold f_Beds_feetCut
  try dsimp only at key
  simp (disch := first | assumption | omega) only [lf_lt, Option.bind_some, nI_add, pk_mul, oz_sub, oz_addm1, oz_div, oz_mod, oz_ck, oz_nz, oz_le_t, oz_le_f, oz_lt_t, oz_lt_f, oz_eq_t, oz_eq_f, oz_eqm1, oz_m1eq, oz_m1lt, oz_ltm1, oz_lem1, oz_m1le, oz_mx, oz_mn, if_true, if_false, ite_true, ite_false, oz_md_r, oz_md_o, oz_md_w, oz_md_wo, oz_md_2, Sum.elim_inl, Sum.elim_inr, pl_0, pl_1, pl_2, pl_3, pl_4, pl_5, pl_6, pl_7, pl_8, pl_9, pl_10, pl_11, pl_12, pl_13, b_2 C h, key]; rfl
theorem oz_p64 {n : Nat} (hn : n ≤ 6) : 2 ^ n ≤ 64 := Nat.pow_le_pow_right (n := 2) (by omega) hn
theorem m_cutsOf (V : oz_V a) (h : b < a 3) {n : Nat} (hn : n ≤ 6) : f_Mod_cutsOf (nI b) (nI n) (oz_md s a) = some (nI (oz_cuts a b n)) := by
  have h0 := oz_v0 V
  unfold oz_V0 at h0
  have hp := oz_p64 hn
  have hp0 := Nat.two_pow_pos n
  have key := (oz_forI (N := 2 ^ n - 1) (fun i x => x < i + 1) (fun f i (x : Nat) => f_Mod_cutsOf_5 (nI b) (nI n) f (nI x) (nI (i + 1)) (oz_md s a)) (fun i x => oz_bst (oz_gain a b n) (fun _ => true) (i + 1) x) nI 0 (by decide) (by
      intro i x hi hx
      try dsimp only
      unfold oz_bst
      split <;> omega) (by
      intro f x hx
      simp (disch := first | assumption | omega) only [f_Mod_cutsOf_5, lf_lt, Option.bind_some, nI_add, pk_mul, oz_sub, oz_addm1, oz_div, oz_mod, oz_ck, oz_nz, oz_le_t, oz_le_f, oz_lt_t, oz_lt_f, oz_eq_t, oz_eq_f, oz_eqm1, oz_m1eq, oz_m1lt, oz_ltm1, oz_lem1, oz_m1le, oz_mx, oz_mn, if_true, if_false, ite_true, ite_false, oz_md_r, oz_md_o, oz_md_w, oz_md_wo, oz_md_2, Sum.elim_inl, Sum.elim_inr, pl_0, pl_1, pl_2, pl_3, pl_4, pl_5, pl_6, pl_7, pl_8, pl_9, pl_10, pl_11, pl_12, pl_13, pl_31, oz_shl1]) (by
      intro f i x hi hx
      have g1 := oz_gain_le V h (n := n) (set := i + 1) hn
      have g2 := oz_gain_le V h (n := n) (set := x) hn
      have c1 := oz_cnt_le (x := i + 1) (n := 31)
      have c2 := oz_cnt_le (x := x) (n := 31)
      rw [f_Mod_cutsOf_5]
      simp (disch := first | assumption | omega) only [lf_lt, Option.bind_some, pl_1, pl_31, oz_shl1, oz_le_f, if_false, m_gainBy V h hn, oz_subpos, oz_sub0, m_bits, nI_add, oz_bst]
      by_cases d1 : oz_gain a b n x < oz_gain a b n (i + 1)
      · rw [if_pos d1, if_pos ⟨Or.inl d1, trivial⟩]
      · rw [if_neg d1]
        by_cases d2 : oz_gain a b n (i + 1) = oz_gain a b n x
        · rw [if_pos d2]
          by_cases d3 : oz_cnt (i + 1) 31 < oz_cnt x 31
          · rw [oz_ile_f d3 (by omega), if_pos ⟨Or.inr ⟨d2, d3⟩, trivial⟩]
          · rw [oz_ile_t (by omega) (by omega), if_neg (fun z => by omega)]
        · rw [if_neg d2, if_neg (fun z => by omega)]) 5000 (by omega)).1
  unfold f_Mod_cutsOf
  try dsimp only at key
  simp only [lf_lt, pl_0, pl_1, Nat.zero_add] at key ⊢
  simp only [key, Option.bind_some]; rfl
theorem c_bestCuts (V : oz_V a) (C : oz_CB s q a) (h : b < a 3) {n : Nat} (hn : n ≤ 6) : f_Beds_bestCuts q (nI b) (nI n) s = some (nI (oz_cuts a b n)) := by
  have h0 := oz_v0 V
  unfold oz_V0 at h0
  have hp := oz_p64 hn
  have hp0 := Nat.two_pow_pos n
  have key := (oz_forI (N := 2 ^ n - 1) (fun i x => x < i + 1) (fun f i (x : Nat) => f_Beds_bestCuts_5 q (nI b) (nI n) f (nI x) (nI (i + 1)) s) (fun i x => oz_bst (oz_gain a b n) (fun _ => true) (i + 1) x) nI 0 (by decide) (by
      intro i x hi hx
      try dsimp only
      unfold oz_bst
      split <;> omega) (by
      intro f x hx
      simp (disch := first | assumption | omega) only [f_Beds_bestCuts_5, lf_lt, Option.bind_some, nI_add, pk_mul, oz_sub, oz_addm1, oz_div, oz_mod, oz_ck, oz_nz, oz_le_t, oz_le_f, oz_lt_t, oz_lt_f, oz_eq_t, oz_eq_f, oz_eqm1, oz_m1eq, oz_m1lt, oz_ltm1, oz_lem1, oz_m1le, oz_mx, oz_mn, if_true, if_false, ite_true, ite_false, oz_md_r, oz_md_o, oz_md_w, oz_md_wo, oz_md_2, Sum.elim_inl, Sum.elim_inr, pl_0, pl_1, pl_2, pl_3, pl_4, pl_5, pl_6, pl_7, pl_8, pl_9, pl_10, pl_11, pl_12, pl_13, pl_31, oz_shl1]) (by
      intro f i x hi hx
      have g1 := oz_gain_le V h (n := n) (set := i + 1) hn
      have g2 := oz_gain_le V h (n := n) (set := x) hn
      have c1 := oz_cnt_le (x := i + 1) (n := 31)
      have c2 := oz_cnt_le (x := x) (n := 31)
      rw [f_Beds_bestCuts_5]
      simp (disch := first | assumption | omega) only [lf_lt, Option.bind_some, pl_1, pl_31, oz_shl1, oz_le_f, if_false, c_feetCut V C h hn, oz_subpos, oz_sub0, oz_bitCount, nI_add, oz_bst]
      by_cases d1 : oz_gain a b n x < oz_gain a b n (i + 1)
      · rw [if_pos d1, if_pos ⟨Or.inl d1, trivial⟩]
      · rw [if_neg d1]
        by_cases d2 : oz_gain a b n (i + 1) = oz_gain a b n x
        · rw [if_pos d2]
          by_cases d3 : oz_cnt (i + 1) 31 < oz_cnt x 31
          · rw [oz_ile_f d3 (by omega), if_pos ⟨Or.inr ⟨d2, d3⟩, trivial⟩]
          · rw [oz_ile_t (by omega) (by omega), if_neg (fun z => by omega)]
        · rw [if_neg d2, if_neg (fun z => by omega)]) 5000 (by omega)).1
  unfold f_Beds_bestCuts
  try dsimp only at key
  simp only [lf_lt, pl_0, pl_1, Nat.zero_add] at key ⊢
  simp only [key, Option.bind_some]; rfl
end
