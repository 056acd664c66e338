/-! ===== beds ahead; odds ===== -/
theorem oz_mxs {a b c : Nat} (ha : a < 1073741824) (hb : b < 1073741824) (hc : c < 1073741824) : lf_mx (nI c) (nI a - nI b) = nI (max c (a - b)) := by
  unfold lf_mx
  by_cases h : b ≤ a
  · rw [oz_sub h]
    by_cases h2 : c < a - b
    · rw [oz_ilt_t h2 (by omega), Nat.max_eq_right (by omega)]
    · rw [oz_ilt_f (by omega) (by omega), Nat.max_eq_left (by omega)]
  · have hn : ¬ nI c < nI a - nI b := by
      rw [Int32.lt_iff_toInt_lt, pk_sub_toInt ha hb, oz_ti (by omega)]
      omega
    rw [if_neg hn, Nat.max_eq_left (by omega)]
def oz_old (age n : Nat) : Nat := n + 1 - max 1 (9 - age)
section
variable {s : lf_S} {q : Nat} {a : Nat → Nat} {b : Nat}
theorem c_stoolsAhead (V : oz_V a) (C : oz_CB s q a) (hb : b < a 3) {n : Nat} (hn : n ≤ 60) : f_Beds_stoolsAhead q (nI b) (nI n) s = some (nI (max 1 (oz_bed a b 2 - max 0 (oz_old (oz_bed a b 1) n)))) := by
  have h0 := oz_v0 V
  unfold oz_V0 at h0
  have h1 := oz_v1 V hb
  unfold oz_V1 at h1
  unfold f_Beds_stoolsAhead oz_old
  have hm1 : max 1 (9 - oz_bed a b 1) ≤ 9 := by omega
  simp (disch := first | assumption | omega) only [lf_lt, Option.bind_some, nI_add, pk_mul, oz_sub, oz_addm1, oz_div, oz_mod, oz_ck, oz_nz, oz_le_t, oz_le_f, oz_lt_t, oz_lt_f, oz_eq_t, oz_eq_f, oz_eqm1, oz_m1eq, oz_neg1, oz_m1lt, oz_ltm1, oz_lem1, oz_m1le, oz_mx, oz_mn, if_true, if_false, ite_true, ite_false, oz_md_r, oz_md_o, oz_md_w, oz_md_wo, oz_md_2, Sum.elim_inl, Sum.elim_inr, pl_0, pl_1, pl_2, pl_3, pl_4, pl_5, pl_6, pl_7, pl_8, pl_9, pl_10, pl_11, pl_12, pl_13, b_2 C hb, b_3 C hb, oz_mxs]
theorem oz_yr0_bed (V : oz_V a) (hb : b < a 3) : oz_bed (oz_yr0 a).2 b 1 = min 9 (oz_bed a b 1 + 1) ∧ oz_bed (oz_yr0 a).2 b 2 = if min 9 (oz_bed a b 1 + 1) = 9 then max 1 (oz_bed a b 2 - 1) else oz_bed a b 2 := by
  have h0 := oz_v0 V
  unfold oz_V0 at h0
  have v1 : oz_V (oz_up a 10 0) := oz_V_up V (by omega)
  have hb' : b < oz_up a 10 0 3 := by rw [oz_up_n (by omega)]; exact hb
  have eb : ∀ w, w < 4 → oz_bed (oz_up a 10 0) b w = oz_bed a b w := fun w hw => oz_bed_eq (oz_eqr_up oz_eqr_rf (by omega)) (by omega) hw
  have eA : oz_agA (oz_up a 10 0) b = min 9 (oz_bed a b 1 + 1) := by
    unfold oz_agA
    rw [if_pos (Or.inl oz_up_s), eb 1 (by omega)]
  refine ⟨?_, ?_⟩
  · show oz_bed (oz_yr2 (oz_up a 10 0)).2 b 1 = _
    rw [oz_yr2_bed v1 hb' (by omega), if_neg (by omega), if_pos rfl, eA]
  · show oz_bed (oz_yr2 (oz_up a 10 0)).2 b 2 = _
    rw [oz_yr2_bed v1 hb' (by omega), if_pos rfl]
    unfold oz_agS
    rw [eA, eb 2 (by omega)]
theorem oz_ahead (V : oz_V a) (hb : b < a 3) : ∀ n, oz_bed (oz_yrs oz_yr0 a n).2 b 1 = min (oz_bed a b 1 + n) 9 ∧ oz_bed (oz_yrs oz_yr0 a n).2 b 2 = max 1 (oz_bed a b 2 - max 0 (oz_old (oz_bed a b 1) n)) ∧ (∀ j, 366 ≤ j → (oz_yrs oz_yr0 a n).2 j = a j) := by
  have h1 := oz_v1 V hb
  unfold oz_V1 at h1
  intro n
  induction n with
  | zero =>
    unfold oz_old
    exact ⟨by show oz_bed a b 1 = _; omega, by show oz_bed a b 2 = _; omega, fun _ _ => rfl⟩
  | succ n ih =>
    obtain ⟨i1, i2, i3⟩ := ih
    obtain ⟨v1, v2, v3⟩ := oz_yrs_V (fun a V => oz_yr0_V V) V n
    have e3 := v3 3 (by omega)
    obtain ⟨j1, j2⟩ := oz_yr0_bed v1 (b := b) (by omega)
    have v10 : oz_V (oz_up (oz_yrs oz_yr0 a n).2 10 0) := oz_V_up v1 (by omega)
    rw [i1] at j1 j2
    rw [i2] at j2
    refine ⟨?_, ?_, fun j hj => ?_⟩
    · show oz_bed (oz_yr0 (oz_yrs oz_yr0 a n).2).2 b 1 = _
      rw [j1]; omega
    · show oz_bed (oz_yr0 (oz_yrs oz_yr0 a n).2).2 b 2 = _
      rw [j2]
      unfold oz_old
      split <;> omega
    · show (oz_yr2 (oz_up (oz_yrs oz_yr0 a n).2 10 0)).2 j = a j
      rw [oz_yr2_hi v10 j hj, oz_up_n (by omega), i3 j hj]
theorem oz_yr_hi (V : oz_V a) : ∀ n, ∀ j, 366 ≤ j → (oz_yrs oz_yr a n).2 j = a j := by
  intro n
  induction n with
  | zero => intro j _; rfl
  | succ n ih =>
    intro j hj
    obtain ⟨v1, v2, v3⟩ := oz_yrs_V (fun a V => oz_yr_V V) V n
    show (oz_yr2 (oz_wetd (oz_yrs oz_yr a n).2)).2 j = a j
    rw [oz_yr2_hi (oz_wetd_V v1) j hj]
    unfold oz_wetd
    rw [oz_up_n (by omega), oz_up_n (by omega), ih j hj]
end
/-! odds -/
def oz_ch (fl set n : Nat) : Nat := oz_it (fun i x => x * (if set.testBit i then fl else 100 - fl)) n 1
def oz_odds (fl n k : Nat) : Nat := oz_sum (fun set => if k ≤ oz_cnt set 31 then oz_ch fl set n else 0) (2 ^ n)
theorem oz_ch_le {fl set : Nat} (hf : fl ≤ 100) : ∀ n, oz_ch fl set n ≤ 100 ^ n := by
  intro n
  induction n with
  | zero => exact Nat.le_refl _
  | succ n ih =>
    show oz_ch fl set n * _ ≤ 100 ^ (n + 1)
    rw [Nat.pow_succ]
    refine Nat.mul_le_mul ih ?_
    split <;> omega
theorem oz_p100 {n : Nat} (h : n ≤ 5) : 100 ^ n ≤ 10000000000 := by
  have : 100 ^ n ≤ 100 ^ 5 := Nat.pow_le_pow_right (by omega) h
  omega
theorem oz_p32 {n : Nat} (h : n ≤ 5) : 2 ^ n ≤ 32 := Nat.pow_le_pow_right (n := 2) (by omega) h
theorem oz_odds_le {fl n k : Nat} (hf : fl ≤ 100) (hn : n ≤ 5) : oz_odds fl n k ≤ 32 * 10000000000 := by
  have h := oz_sum_le (f := fun set => if k ≤ oz_cnt set 31 then oz_ch fl set n else 0) (N := 2 ^ n) (B := 10000000000) (fun i _ => by
    have := oz_ch_le (set := i) hf n
    have := oz_p100 hn
    split <;> omega)
  have h2 := oz_p32 hn
  unfold oz_odds
  exact Nat.le_trans h (Nat.mul_le_mul_right _ h2)
def oz_oddsV (fl n k : Nat) : Nat := oz_odds fl n k * 10000 / 100 ^ n
theorem pl_l1 : (1 : Int64) = lN 1 := rfl
theorem pl_l0 : (0 : Int64) = lN 0 := rfl
theorem pl_l100 : (100 : Int64) = lN 100 := rfl
theorem pl_l10000 : (10000 : Int64) = lN 10000 := rfl
theorem oz_toL {x : Nat} (h : x < 2147483648) : (nI x).toInt64 = lN x := nI_l h
theorem oz_nzl {α : Type} {a : Nat} {A : Option α} (h0 : 0 < a) (h : a < 9223372036854775808) : lf_nzl (lN a) A = A := by
  unfold lf_nzl
  rw [if_neg]
  rw [pl_l0, pk_lEQ h (by omega)]
  omega
theorem oz_ldiv {a b : Nat} (ha : a < 9223372036854775808) (h0 : 0 < b) (hb : b < 9223372036854775808) : lN a / lN b = lN (a / b) := pk_lDiv ha h0 hb
section
variable {s : lf_S} {a : Nat → Nat}
theorem c_chanceOf {fl : Nat} (h7 : s.1 10 7 = nI fl) (hf : fl ≤ 100) {set n : Nat} (hs : set < 64) (hn : n ≤ 5) : f_Main_chanceOf (nI set) (nI n) s = some (lN (oz_ch fl set n)) := by
  have key := oz_for (N := n) (fun g i (x : Nat) => f_Main_chanceOf_5 (nI set) (nI n) g (lN x) (nI i) s) (fun i x => x * (if set.testBit i then fl else 100 - fl)) lN 1 (by
      intro g x
      simp (disch := first | assumption | omega) only [f_Main_chanceOf_5, lf_lt, Option.bind_some, nI_add, pk_mul, oz_sub, oz_addm1, oz_div, oz_mod, oz_ck, oz_nz, oz_le_t, oz_le_f, oz_lt_t, oz_lt_f, oz_eq_t, oz_eq_f, oz_eqm1, oz_m1eq, oz_neg1, oz_m1lt, oz_ltm1, oz_lem1, oz_m1le, oz_mx, oz_mn, if_true, if_false, ite_true, ite_false, oz_md_r, oz_md_o, oz_md_w, oz_md_wo, oz_md_2, Sum.elim_inl, Sum.elim_inr, pl_0, pl_1, pl_2, pl_3, pl_4, pl_5, pl_6, pl_7, pl_8, pl_9, pl_10, pl_11, pl_12, pl_13]) (by
      intro g i x hi
      simp (disch := first | assumption | omega) only [f_Main_chanceOf_5, lf_lt, Option.bind_some, nI_add, pk_mul, oz_sub, oz_addm1, oz_div, oz_mod, oz_ck, oz_nz, oz_le_t, oz_le_f, oz_lt_t, oz_lt_f, oz_eq_t, oz_eq_f, oz_eqm1, oz_m1eq, oz_neg1, oz_m1lt, oz_ltm1, oz_lem1, oz_m1le, oz_mx, oz_mn, if_true, if_false, ite_true, ite_false, oz_md_r, oz_md_o, oz_md_w, oz_md_wo, oz_md_2, Sum.elim_inl, Sum.elim_inr, pl_0, pl_1, pl_2, pl_3, pl_4, pl_5, pl_6, pl_7, pl_8, pl_9, pl_10, pl_11, pl_12, pl_13, pl_31, pl_100, oz_bit_eq, h7, oz_toL, lN_mul]
      cases set.testBit i <;> rfl) 5000 (by omega)
  unfold f_Main_chanceOf
  try dsimp only at key
  simp only [lf_lt, pl_0, pl_l1, key, Option.bind_some]; rfl
theorem oz_ch0 {fl set : Nat} : ∀ n, oz_it (fun i x => x * (if set.testBit i then fl else 100 - fl)) n 0 = 0 := by
  intro n
  induction n with
  | zero => rfl
  | succ n ih => show oz_it _ n 0 * _ = 0; rw [ih, Nat.zero_mul]
theorem m_chLoop (V : oz_V a) (c2 : Int32) (c3 c5 : Int64) {set n x0 : Nat} (hs : set < 64) (hn : n ≤ 5) : f_Mod_odds_94 (nI n) c2 c3 c5 (nI set) 5000 (lN x0) (nI 0) (oz_md s a) = some (lN (oz_it (fun i x => x * (if set.testBit i then a 7 else 100 - a 7)) n x0), oz_md s a) := by
  have h0 := oz_v0 V
  unfold oz_V0 at h0
  exact oz_for (N := n) (fun g i (x : Nat) => f_Mod_odds_94 (nI n) c2 c3 c5 (nI set) g (lN x) (nI i) (oz_md s a)) (fun i x => x * (if set.testBit i then a 7 else 100 - a 7)) (fun x => (lN x, oz_md s a)) x0 (by
      intro g x
      simp (disch := first | assumption | omega) only [f_Mod_odds_94, lf_lt, Option.bind_some, nI_add, pk_mul, oz_sub, oz_addm1, oz_div, oz_mod, oz_ck, oz_nz, oz_le_t, oz_le_f, oz_lt_t, oz_lt_f, oz_eq_t, oz_eq_f, oz_eqm1, oz_m1eq, oz_neg1, oz_m1lt, oz_ltm1, oz_lem1, oz_m1le, oz_mx, oz_mn, if_true, if_false, ite_true, ite_false, oz_md_r, oz_md_o, oz_md_w, oz_md_wo, oz_md_2, Sum.elim_inl, Sum.elim_inr, pl_0, pl_1, pl_2, pl_3, pl_4, pl_5, pl_6, pl_7, pl_8, pl_9, pl_10, pl_11, pl_12, pl_13]) (by
      intro g i x hi
      simp (disch := first | assumption | omega) only [f_Mod_odds_94, lf_lt, Option.bind_some, nI_add, pk_mul, oz_sub, oz_addm1, oz_div, oz_mod, oz_ck, oz_nz, oz_le_t, oz_le_f, oz_lt_t, oz_lt_f, oz_eq_t, oz_eq_f, oz_eqm1, oz_m1eq, oz_neg1, oz_m1lt, oz_ltm1, oz_lem1, oz_m1le, oz_mx, oz_mn, if_true, if_false, ite_true, ite_false, oz_md_r, oz_md_o, oz_md_w, oz_md_wo, oz_md_2, Sum.elim_inl, Sum.elim_inr, pl_0, pl_1, pl_2, pl_3, pl_4, pl_5, pl_6, pl_7, pl_8, pl_9, pl_10, pl_11, pl_12, pl_13, pl_31, pl_100, m_isOf, oz_toL, lN_mul]
      cases set.testBit i <;> rfl) 5000 (by omega)
theorem m_oddsAll {n : Nat} (hn : n ≤ 5) (c2 : Int32) (c3 : Int64) : f_Mod_odds_44 (nI n) c2 c3 5000 (lN 1) (nI 0) s = some (lN (100 ^ n), s) := by
  have key := oz_for (N := n) (fun g i (x : Nat) => f_Mod_odds_44 (nI n) c2 c3 g (lN x) (nI i) s) (fun _ x => x * 100) (fun x => (lN x, s)) 1 (by
      intro g x
      simp (disch := first | assumption | omega) only [f_Mod_odds_44, lf_lt, Option.bind_some, nI_add, pk_mul, oz_sub, oz_addm1, oz_div, oz_mod, oz_ck, oz_nz, oz_le_t, oz_le_f, oz_lt_t, oz_lt_f, oz_eq_t, oz_eq_f, oz_eqm1, oz_m1eq, oz_neg1, oz_m1lt, oz_ltm1, oz_lem1, oz_m1le, oz_mx, oz_mn, if_true, if_false, ite_true, ite_false, oz_md_r, oz_md_o, oz_md_w, oz_md_wo, oz_md_2, Sum.elim_inl, Sum.elim_inr, pl_0, pl_1, pl_2, pl_3, pl_4, pl_5, pl_6, pl_7, pl_8, pl_9, pl_10, pl_11, pl_12, pl_13]) (by
      intro g i x hi
      simp (disch := first | assumption | omega) only [f_Mod_odds_44, lf_lt, Option.bind_some, nI_add, pk_mul, oz_sub, oz_addm1, oz_div, oz_mod, oz_ck, oz_nz, oz_le_t, oz_le_f, oz_lt_t, oz_lt_f, oz_eq_t, oz_eq_f, oz_eqm1, oz_m1eq, oz_neg1, oz_m1lt, oz_ltm1, oz_lem1, oz_m1le, oz_mx, oz_mn, if_true, if_false, ite_true, ite_false, oz_md_r, oz_md_o, oz_md_w, oz_md_wo, oz_md_2, Sum.elim_inl, Sum.elim_inr, pl_0, pl_1, pl_2, pl_3, pl_4, pl_5, pl_6, pl_7, pl_8, pl_9, pl_10, pl_11, pl_12, pl_13, pl_l100, lN_mul]) 5000 (by omega)
  have e : ∀ m, oz_it (fun (_ : Nat) x => x * 100) m 1 = 100 ^ m := by
    intro m
    induction m with
    | zero => rfl
    | succ m ih => show oz_it _ m 1 * 100 = _; rw [ih, Nat.pow_succ]
  rw [e] at key
  exact key
theorem m_oddsLoop (V : oz_V a) {n k : Nat} (hn : n ≤ 5) (hk : k ≤ 5) (c5 : Int64) : f_Mod_odds_67 (nI n) (nI k) c5 5000 (lN 0) (nI 0) (oz_md s a) = some (lN (oz_odds (a 7) n k), oz_md s a) := by
  have h2 := oz_p32 hn
  have key := oz_for (N := 2 ^ n) (fun g i (x : Nat) => f_Mod_odds_67 (nI n) (nI k) c5 g (lN x) (nI i) (oz_md s a)) (fun i x => x + (if k ≤ oz_cnt i 31 then oz_ch (a 7) i n else 0)) (fun x => (lN x, oz_md s a)) 0 (by
      intro g x
      simp (disch := first | assumption | omega) only [f_Mod_odds_67, lf_lt, Option.bind_some, nI_add, pk_mul, oz_sub, oz_addm1, oz_div, oz_mod, oz_ck, oz_nz, oz_le_t, oz_le_f, oz_lt_t, oz_lt_f, oz_eq_t, oz_eq_f, oz_eqm1, oz_m1eq, oz_neg1, oz_m1lt, oz_ltm1, oz_lem1, oz_m1le, oz_mx, oz_mn, if_true, if_false, ite_true, ite_false, oz_md_r, oz_md_o, oz_md_w, oz_md_wo, oz_md_2, Sum.elim_inl, Sum.elim_inr, pl_0, pl_1, pl_2, pl_3, pl_4, pl_5, pl_6, pl_7, pl_8, pl_9, pl_10, pl_11, pl_12, pl_13, pl_31, oz_shl1]) (by
      intro g i x hi
      have c1 := oz_cnt_le (x := i) (n := 31)
      by_cases c : k ≤ oz_cnt i 31
      · rw [if_pos c]
        simp (disch := first | assumption | omega) only [f_Mod_odds_67, lf_lt, Option.bind_some, nI_add, pk_mul, oz_sub, oz_addm1, oz_div, oz_mod, oz_ck, oz_nz, oz_le_t, oz_le_f, oz_lt_t, oz_lt_f, oz_eq_t, oz_eq_f, oz_eqm1, oz_m1eq, oz_neg1, oz_m1lt, oz_ltm1, oz_lem1, oz_m1le, oz_mx, oz_mn, if_true, if_false, ite_true, ite_false, oz_md_r, oz_md_o, oz_md_w, oz_md_wo, oz_md_2, Sum.elim_inl, Sum.elim_inr, pl_0, pl_1, pl_2, pl_3, pl_4, pl_5, pl_6, pl_7, pl_8, pl_9, pl_10, pl_11, pl_12, pl_13, pl_31, oz_shl1, m_bits, pl_l1, m_chLoop V, lN_add]; rfl
      · rw [if_neg c]
        simp (disch := first | assumption | omega) only [f_Mod_odds_67, lf_lt, Option.bind_some, nI_add, pk_mul, oz_sub, oz_addm1, oz_div, oz_mod, oz_ck, oz_nz, oz_le_t, oz_le_f, oz_lt_t, oz_lt_f, oz_eq_t, oz_eq_f, oz_eqm1, oz_m1eq, oz_neg1, oz_m1lt, oz_ltm1, oz_lem1, oz_m1le, oz_mx, oz_mn, if_true, if_false, ite_true, ite_false, oz_md_r, oz_md_o, oz_md_w, oz_md_wo, oz_md_2, Sum.elim_inl, Sum.elim_inr, pl_0, pl_1, pl_2, pl_3, pl_4, pl_5, pl_6, pl_7, pl_8, pl_9, pl_10, pl_11, pl_12, pl_13, pl_31, oz_shl1, m_bits, pl_l0, m_chLoop V, oz_ch0, lN_add]) 5000 (by omega)
  rw [oz_it_sum (f := fun i => if k ≤ oz_cnt i 31 then oz_ch (a 7) i n else 0)] at key
  exact key
theorem c_oddsLoop {fl : Nat} (h7 : s.1 10 7 = nI fl) (hf : fl ≤ 100) {n k : Nat} (hn : n ≤ 5) (hk : k ≤ 5) : f_Main_odds_17 (nI n) (nI k) 5000 (lN 0) (nI 0) s = some (lN (oz_odds fl n k), s) := by
  have h2 := oz_p32 hn
  have key := oz_for (N := 2 ^ n) (fun g i (x : Nat) => f_Main_odds_17 (nI n) (nI k) g (lN x) (nI i) s) (fun i x => x + (if k ≤ oz_cnt i 31 then oz_ch fl i n else 0)) (fun x => (lN x, s)) 0 (by
      intro g x
      simp (disch := first | assumption | omega) only [f_Main_odds_17, lf_lt, Option.bind_some, nI_add, pk_mul, oz_sub, oz_addm1, oz_div, oz_mod, oz_ck, oz_nz, oz_le_t, oz_le_f, oz_lt_t, oz_lt_f, oz_eq_t, oz_eq_f, oz_eqm1, oz_m1eq, oz_neg1, oz_m1lt, oz_ltm1, oz_lem1, oz_m1le, oz_mx, oz_mn, if_true, if_false, ite_true, ite_false, oz_md_r, oz_md_o, oz_md_w, oz_md_wo, oz_md_2, Sum.elim_inl, Sum.elim_inr, pl_0, pl_1, pl_2, pl_3, pl_4, pl_5, pl_6, pl_7, pl_8, pl_9, pl_10, pl_11, pl_12, pl_13, pl_31, oz_shl1]) (by
      intro g i x hi
      have c1 := oz_cnt_le (x := i) (n := 31)
      by_cases c : k ≤ oz_cnt i 31
      · rw [if_pos c]
        simp (disch := first | assumption | omega) only [f_Main_odds_17, lf_lt, Option.bind_some, nI_add, pk_mul, oz_sub, oz_addm1, oz_div, oz_mod, oz_ck, oz_nz, oz_le_t, oz_le_f, oz_lt_t, oz_lt_f, oz_eq_t, oz_eq_f, oz_eqm1, oz_m1eq, oz_neg1, oz_m1lt, oz_ltm1, oz_lem1, oz_m1le, oz_mx, oz_mn, if_true, if_false, ite_true, ite_false, oz_md_r, oz_md_o, oz_md_w, oz_md_wo, oz_md_2, Sum.elim_inl, Sum.elim_inr, pl_0, pl_1, pl_2, pl_3, pl_4, pl_5, pl_6, pl_7, pl_8, pl_9, pl_10, pl_11, pl_12, pl_13, pl_31, oz_shl1, oz_bitCount, c_chanceOf h7 hf, lN_add]
      · rw [if_neg c]
        simp (disch := first | assumption | omega) only [f_Main_odds_17, lf_lt, Option.bind_some, nI_add, pk_mul, oz_sub, oz_addm1, oz_div, oz_mod, oz_ck, oz_nz, oz_le_t, oz_le_f, oz_lt_t, oz_lt_f, oz_eq_t, oz_eq_f, oz_eqm1, oz_m1eq, oz_neg1, oz_m1lt, oz_ltm1, oz_lem1, oz_m1le, oz_mx, oz_mn, if_true, if_false, ite_true, ite_false, oz_md_r, oz_md_o, oz_md_w, oz_md_wo, oz_md_2, Sum.elim_inl, Sum.elim_inr, pl_0, pl_1, pl_2, pl_3, pl_4, pl_5, pl_6, pl_7, pl_8, pl_9, pl_10, pl_11, pl_12, pl_13, pl_31, oz_shl1, oz_bitCount, Nat.add_zero]) 5000 (by omega)
  rw [oz_it_sum (f := fun i => if k ≤ oz_cnt i 31 then oz_ch fl i n else 0)] at key
  exact key
theorem c_oddsAll {n : Nat} (hn : n ≤ 5) (c3 : Int64) : f_Main_odds_56 (nI n) c3 5000 (lN 1) (nI 0) s = some (lN (100 ^ n), s) := by
  have key := oz_for (N := n) (fun g i (x : Nat) => f_Main_odds_56 (nI n) c3 g (lN x) (nI i) s) (fun _ x => x * 100) (fun x => (lN x, s)) 1 (by
      intro g x
      simp (disch := first | assumption | omega) only [f_Main_odds_56, lf_lt, Option.bind_some, nI_add, pk_mul, oz_sub, oz_addm1, oz_div, oz_mod, oz_ck, oz_nz, oz_le_t, oz_le_f, oz_lt_t, oz_lt_f, oz_eq_t, oz_eq_f, oz_eqm1, oz_m1eq, oz_neg1, oz_m1lt, oz_ltm1, oz_lem1, oz_m1le, oz_mx, oz_mn, if_true, if_false, ite_true, ite_false, oz_md_r, oz_md_o, oz_md_w, oz_md_wo, oz_md_2, Sum.elim_inl, Sum.elim_inr, pl_0, pl_1, pl_2, pl_3, pl_4, pl_5, pl_6, pl_7, pl_8, pl_9, pl_10, pl_11, pl_12, pl_13]) (by
      intro g i x hi
      simp (disch := first | assumption | omega) only [f_Main_odds_56, lf_lt, Option.bind_some, nI_add, pk_mul, oz_sub, oz_addm1, oz_div, oz_mod, oz_ck, oz_nz, oz_le_t, oz_le_f, oz_lt_t, oz_lt_f, oz_eq_t, oz_eq_f, oz_eqm1, oz_m1eq, oz_neg1, oz_m1lt, oz_ltm1, oz_lem1, oz_m1le, oz_mx, oz_mn, if_true, if_false, ite_true, ite_false, oz_md_r, oz_md_o, oz_md_w, oz_md_wo, oz_md_2, Sum.elim_inl, Sum.elim_inr, pl_0, pl_1, pl_2, pl_3, pl_4, pl_5, pl_6, pl_7, pl_8, pl_9, pl_10, pl_11, pl_12, pl_13, pl_l100, lN_mul]) 5000 (by omega)
  have e : ∀ m, oz_it (fun (_ : Nat) x => x * 100) m 1 = 100 ^ m := by
    intro m
    induction m with
    | zero => rfl
    | succ m ih => show oz_it _ m 1 * 100 = _; rw [ih, Nat.pow_succ]
  rw [e] at key
  exact key
end
