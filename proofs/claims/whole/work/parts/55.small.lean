/-! ===== small questions ===== -/
def oz_en : Option Nat → Int32
  | none => oz_N
  | some k => nI k
def oz_cntp (a : Nat → Nat) (f p : Nat) : Nat := oz_sum (fun k => if oz_bas a k 2 = f ∧ p ≤ oz_bas a k 3 then 1 else 0) (a 4)
def oz_prs (a : Nat → Nat) (f i x : Nat) : Nat := if x * oz_cntp a f x < i * oz_cntp a f i then i else x
def oz_price (a : Nat → Nat) (f : Nat) : Nat := oz_it (oz_prs a f) 100 0
def oz_tw (a : Nat → Nat) (i : Nat) : Nat := oz_sum (fun j => if oz_bed a i 0 = oz_bed a (i + 1 + j) 0 ∧ oz_bed a i 1 = oz_bed a (i + 1 + j) 1 then 1 else 0) (a 3 - (i + 1))
def oz_twins (a : Nat → Nat) : Nat := oz_sum (oz_tw a) (a 3)
/-- the first greatest -/
def oz_fgs (val : Nat → Nat) (i : Nat) (x : Option Nat) : Option Nat := match x with
  | none => some i
  | some b => if val b < val i then some i else some b
def oz_fg (val : Nat → Nat) (n : Nat) : Option Nat := oz_it (oz_fgs val) n none
theorem oz_fg_lt {val : Nat → Nat} : ∀ n b, oz_fg val n = some b → b < n := by
  intro n
  induction n with
  | zero => intro b h; cases h
  | succ n ih =>
    intro b h
    change oz_fgs val n (oz_fg val n) = some b at h
    cases c : oz_fg val n with
    | none => rw [c] at h; cases h; omega
    | some k =>
      rw [c] at h
      have := ih k c
      unfold oz_fgs at h
      try dsimp only at h
      split at h
      · cases h; omega
      · cases h; omega
section
variable {s : lf_S} {q : Nat} {a : Nat → Nat} {b : Nat}
theorem oz_cntp_le (V : oz_V a) {f p : Nat} : oz_cntp a f p ≤ 5 := by
  have h0 := oz_v0 V
  unfold oz_V0 at h0
  have h := oz_sum_le (f := fun k => if oz_bas a k 2 = f ∧ p ≤ oz_bas a k 3 then 1 else 0) (N := a 4) (B := 1) (fun i _ => by split <;> omega)
  unfold oz_cntp
  omega
theorem c_buyersAt (V : oz_V a) (C : oz_CK s q a) {f p : Nat} (hf : f ≤ 6) (hp : p ≤ 99) : f_Baskets_buyersAt q (nI p) (nI f) s = some (nI (oz_cntp a f p)) := by
  have h0 := oz_v0 V
  unfold oz_V0 at h0
  have key := oz_for (N := a 4) (fun g i (x : Nat) => f_Baskets_buyersAt_5 q (nI p) (nI f) g (nI x) (nI i) s) (fun k x => x + if oz_bas a k 2 = f ∧ p ≤ oz_bas a k 3 then 1 else 0) nI 0 (by
      intro g x
      simp (disch := first | assumption | omega) only [f_Baskets_buyersAt_5, lf_lt, Option.bind_some, nI_add, pk_mul, oz_sub, oz_addm1, oz_div, oz_mod, oz_ck, oz_nz, oz_le_t, oz_le_f, oz_lt_t, oz_lt_f, oz_eq_t, oz_eq_f, oz_eqm1, oz_m1eq, oz_neg1, oz_m1lt, oz_ltm1, oz_lem1, oz_m1le, oz_mx, oz_mn, if_true, if_false, ite_true, ite_false, oz_md_r, oz_md_o, oz_md_w, oz_md_wo, oz_md_2, Sum.elim_inl, Sum.elim_inr, pl_0, pl_1, pl_2, pl_3, pl_4, pl_5, pl_6, pl_7, pl_8, pl_9, pl_10, pl_11, pl_12, pl_13, k_0 C]) (by
      intro g i x hi
      have h2 := oz_v2 V hi
      unfold oz_V2 at h2
      by_cases c : oz_bas a i 2 = f
      · by_cases c2 : p ≤ oz_bas a i 3
        · rw [if_pos ⟨c, c2⟩]
          simp (disch := first | assumption | omega) only [f_Baskets_buyersAt_5, lf_lt, Option.bind_some, nI_add, pk_mul, oz_sub, oz_addm1, oz_div, oz_mod, oz_ck, oz_nz, oz_le_t, oz_le_f, oz_lt_t, oz_lt_f, oz_eq_t, oz_eq_f, oz_eqm1, oz_m1eq, oz_neg1, oz_m1lt, oz_ltm1, oz_lem1, oz_m1le, oz_mx, oz_mn, if_true, if_false, ite_true, ite_false, oz_md_r, oz_md_o, oz_md_w, oz_md_wo, oz_md_2, Sum.elim_inl, Sum.elim_inr, pl_0, pl_1, pl_2, pl_3, pl_4, pl_5, pl_6, pl_7, pl_8, pl_9, pl_10, pl_11, pl_12, pl_13, k_0 C, k_3 C hi, k_4 C hi]
        · rw [if_neg (fun z => c2 z.2)]
          simp (disch := first | assumption | omega) only [f_Baskets_buyersAt_5, lf_lt, Option.bind_some, nI_add, pk_mul, oz_sub, oz_addm1, oz_div, oz_mod, oz_ck, oz_nz, oz_le_t, oz_le_f, oz_lt_t, oz_lt_f, oz_eq_t, oz_eq_f, oz_eqm1, oz_m1eq, oz_neg1, oz_m1lt, oz_ltm1, oz_lem1, oz_m1le, oz_mx, oz_mn, if_true, if_false, ite_true, ite_false, oz_md_r, oz_md_o, oz_md_w, oz_md_wo, oz_md_2, Sum.elim_inl, Sum.elim_inr, pl_0, pl_1, pl_2, pl_3, pl_4, pl_5, pl_6, pl_7, pl_8, pl_9, pl_10, pl_11, pl_12, pl_13, k_0 C, k_3 C hi, k_4 C hi]; rfl
      · rw [if_neg (fun z => c z.1)]
        simp (disch := first | assumption | omega) only [f_Baskets_buyersAt_5, lf_lt, Option.bind_some, nI_add, pk_mul, oz_sub, oz_addm1, oz_div, oz_mod, oz_ck, oz_nz, oz_le_t, oz_le_f, oz_lt_t, oz_lt_f, oz_eq_t, oz_eq_f, oz_eqm1, oz_m1eq, oz_neg1, oz_m1lt, oz_ltm1, oz_lem1, oz_m1le, oz_mx, oz_mn, if_true, if_false, ite_true, ite_false, oz_md_r, oz_md_o, oz_md_w, oz_md_wo, oz_md_2, Sum.elim_inl, Sum.elim_inr, pl_0, pl_1, pl_2, pl_3, pl_4, pl_5, pl_6, pl_7, pl_8, pl_9, pl_10, pl_11, pl_12, pl_13, k_0 C, k_3 C hi]; rfl) 5000 (by omega)
  rw [oz_it_sum (f := fun k => if oz_bas a k 2 = f ∧ p ≤ oz_bas a k 3 then 1 else 0)] at key
  unfold f_Baskets_buyersAt
  try dsimp only at key
  simp only [lf_lt, pl_0, key, Option.bind_some]; rfl
theorem oz_sum_mul {P : Nat → Prop} [∀ i, Decidable (P i)] {p : Nat} : ∀ n, oz_sum (fun i => if P i then p else 0) n = p * oz_sum (fun i => if P i then 1 else 0) n := by
  intro n
  induction n with
  | zero => rfl
  | succ n ih =>
    show oz_sum _ n + (if P n then p else 0) = p * (oz_sum _ n + (if P n then 1 else 0))
    rw [ih, Nat.mul_add]
    split <;> simp
theorem m_earned (V : oz_V a) {f p : Nat} (hf : f ≤ 6) (hp : p ≤ 99) : f_Mod_earned (nI f) (nI p) (oz_md s a) = some (nI (p * oz_cntp a f p)) := by
  have h0 := oz_v0 V
  unfold oz_V0 at h0
  have key := oz_for (N := a 4) (fun g i (x : Nat) => f_Mod_earned_5 (nI f) (nI p) g (nI x) (nI i) (oz_md s a)) (fun k x => x + if oz_bas a k 2 = f ∧ p ≤ oz_bas a k 3 then p else 0) nI 0 (by
      intro g x
      simp (disch := first | assumption | omega) only [f_Mod_earned_5, lf_lt, Option.bind_some, nI_add, pk_mul, oz_sub, oz_addm1, oz_div, oz_mod, oz_ck, oz_nz, oz_le_t, oz_le_f, oz_lt_t, oz_lt_f, oz_eq_t, oz_eq_f, oz_eqm1, oz_m1eq, oz_neg1, oz_m1lt, oz_ltm1, oz_lem1, oz_m1le, oz_mx, oz_mn, if_true, if_false, ite_true, ite_false, oz_md_r, oz_md_o, oz_md_w, oz_md_wo, oz_md_2, Sum.elim_inl, Sum.elim_inr, pl_0, pl_1, pl_2, pl_3, pl_4, pl_5, pl_6, pl_7, pl_8, pl_9, pl_10, pl_11, pl_12, pl_13]) (by
      intro g i x hi
      have h2 := oz_v2 V hi
      unfold oz_V2 at h2
      by_cases c : oz_bas a i 2 = f
      · by_cases c2 : p ≤ oz_bas a i 3
        · rw [if_pos ⟨c, c2⟩]
          simp (disch := first | assumption | omega) only [f_Mod_earned_5, lf_lt, Option.bind_some, nI_add, pk_mul, oz_sub, oz_addm1, oz_div, oz_mod, oz_ck, oz_nz, oz_le_t, oz_le_f, oz_lt_t, oz_lt_f, oz_eq_t, oz_eq_f, oz_eqm1, oz_m1eq, oz_neg1, oz_m1lt, oz_ltm1, oz_lem1, oz_m1le, oz_mx, oz_mn, if_true, if_false, ite_true, ite_false, oz_md_r, oz_md_o, oz_md_w, oz_md_wo, oz_md_2, Sum.elim_inl, Sum.elim_inr, pl_0, pl_1, pl_2, pl_3, pl_4, pl_5, pl_6, pl_7, pl_8, pl_9, pl_10, pl_11, pl_12, pl_13, m_ofBasket]
        · rw [if_neg (fun z => c2 z.2)]
          simp (disch := first | assumption | omega) only [f_Mod_earned_5, lf_lt, Option.bind_some, nI_add, pk_mul, oz_sub, oz_addm1, oz_div, oz_mod, oz_ck, oz_nz, oz_le_t, oz_le_f, oz_lt_t, oz_lt_f, oz_eq_t, oz_eq_f, oz_eqm1, oz_m1eq, oz_neg1, oz_m1lt, oz_ltm1, oz_lem1, oz_m1le, oz_mx, oz_mn, if_true, if_false, ite_true, ite_false, oz_md_r, oz_md_o, oz_md_w, oz_md_wo, oz_md_2, Sum.elim_inl, Sum.elim_inr, pl_0, pl_1, pl_2, pl_3, pl_4, pl_5, pl_6, pl_7, pl_8, pl_9, pl_10, pl_11, pl_12, pl_13, m_ofBasket]
      · rw [if_neg (fun z => c z.1)]
        simp (disch := first | assumption | omega) only [f_Mod_earned_5, lf_lt, Option.bind_some, nI_add, pk_mul, oz_sub, oz_addm1, oz_div, oz_mod, oz_ck, oz_nz, oz_le_t, oz_le_f, oz_lt_t, oz_lt_f, oz_eq_t, oz_eq_f, oz_eqm1, oz_m1eq, oz_neg1, oz_m1lt, oz_ltm1, oz_lem1, oz_m1le, oz_mx, oz_mn, if_true, if_false, ite_true, ite_false, oz_md_r, oz_md_o, oz_md_w, oz_md_wo, oz_md_2, Sum.elim_inl, Sum.elim_inr, pl_0, pl_1, pl_2, pl_3, pl_4, pl_5, pl_6, pl_7, pl_8, pl_9, pl_10, pl_11, pl_12, pl_13, m_ofBasket]) 5000 (by omega)
  rw [oz_it_sum (f := fun k => if oz_bas a k 2 = f ∧ p ≤ oz_bas a k 3 then p else 0), oz_sum_mul] at key
  unfold f_Mod_earned
  try dsimp only at key
  simp only [lf_lt, pl_0, key, Option.bind_some]; rfl
theorem c_bestPrice (V : oz_V a) (C : oz_CK s q a) {f : Nat} (hf : f ≤ 6) : f_Baskets_bestPrice q (nI f) s = some (nI (oz_price a f)) := by
  have h0 := oz_v0 V
  unfold oz_V0 at h0
  have key := (oz_forI (N := 100) (fun i x => x < i + 1) (fun g i (x : Nat) => f_Baskets_bestPrice_7 q (nI f) g (nI x) (nI (x * oz_cntp a f x)) (nI i) s) (oz_prs a f) nI 0 (by decide) (by
      intro i x hi hx
      unfold oz_prs
      split <;> omega) (by
      intro g x hx
      simp (disch := first | assumption | omega) only [f_Baskets_bestPrice_7, lf_lt, Option.bind_some, nI_add, pk_mul, oz_sub, oz_addm1, oz_div, oz_mod, oz_ck, oz_nz, oz_le_t, oz_le_f, oz_lt_t, oz_lt_f, oz_eq_t, oz_eq_f, oz_eqm1, oz_m1eq, oz_neg1, oz_m1lt, oz_ltm1, oz_lem1, oz_m1le, oz_mx, oz_mn, if_true, if_false, ite_true, ite_false, oz_md_r, oz_md_o, oz_md_w, oz_md_wo, oz_md_2, Sum.elim_inl, Sum.elim_inr, pl_0, pl_1, pl_2, pl_3, pl_4, pl_5, pl_6, pl_7, pl_8, pl_9, pl_10, pl_11, pl_12, pl_13, pl_99]) (by
      intro g i x hi hx
      have c1 := oz_cntp_le V (f := f) (p := i)
      have c2 := oz_cntp_le V (f := f) (p := x)
      have m1 : i * oz_cntp a f i ≤ 100 * 5 := Nat.mul_le_mul (by omega) c1
      have m2 : x * oz_cntp a f x ≤ 100 * 5 := Nat.mul_le_mul (by omega) c2
      simp (disch := first | assumption | omega) only [f_Baskets_bestPrice_7, lf_lt, Option.bind_some, nI_add, pk_mul, oz_sub, oz_addm1, oz_div, oz_mod, oz_ck, oz_nz, oz_le_t, oz_le_f, oz_lt_t, oz_lt_f, oz_eq_t, oz_eq_f, oz_eqm1, oz_m1eq, oz_neg1, oz_m1lt, oz_ltm1, oz_lem1, oz_m1le, oz_mx, oz_mn, if_true, if_false, ite_true, ite_false, oz_md_r, oz_md_o, oz_md_w, oz_md_wo, oz_md_2, Sum.elim_inl, Sum.elim_inr, pl_0, pl_1, pl_2, pl_3, pl_4, pl_5, pl_6, pl_7, pl_8, pl_9, pl_10, pl_11, pl_12, pl_13, pl_99, c_buyersAt V C hf, oz_prs]
      by_cases c : x * oz_cntp a f x < i * oz_cntp a f i
      · rw [oz_ile_f c (by omega), if_pos c]
      · rw [oz_ile_t (by omega) (by omega), if_neg c]) 5000 (by omega)).1
  unfold f_Baskets_bestPrice
  try dsimp only at key
  rw [Nat.zero_mul] at key
  simp only [lf_lt, pl_0, key, Option.bind_some]; rfl
theorem m_priceLoop (V : oz_V a) {f : Nat} (hf : f ≤ 6) : f_Mod_price_32 (nI f) 5000 (nI 0) (nI 1) (oz_md s a) = some (nI (oz_price a f), oz_md s a) := by
  have h0 := oz_v0 V
  unfold oz_V0 at h0
  have key := (oz_forI (N := 99) (fun i x => x < i + 2) (fun g i (x : Nat) => f_Mod_price_32 (nI f) g (nI x) (nI (i + 1)) (oz_md s a)) (fun i => oz_prs a f (i + 1)) (fun x => (nI x, oz_md s a)) 0 (by decide) (by
      intro i x hi hx
      unfold oz_prs
      split <;> omega) (by
      intro g x hx
      simp (disch := first | assumption | omega) only [f_Mod_price_32, lf_lt, Option.bind_some, nI_add, pk_mul, oz_sub, oz_addm1, oz_div, oz_mod, oz_ck, oz_nz, oz_le_t, oz_le_f, oz_lt_t, oz_lt_f, oz_eq_t, oz_eq_f, oz_eqm1, oz_m1eq, oz_neg1, oz_m1lt, oz_ltm1, oz_lem1, oz_m1le, oz_mx, oz_mn, if_true, if_false, ite_true, ite_false, oz_md_r, oz_md_o, oz_md_w, oz_md_wo, oz_md_2, Sum.elim_inl, Sum.elim_inr, pl_0, pl_1, pl_2, pl_3, pl_4, pl_5, pl_6, pl_7, pl_8, pl_9, pl_10, pl_11, pl_12, pl_13, pl_100]) (by
      intro g i x hi hx
      have c1 := oz_cntp_le V (f := f) (p := i + 1)
      have c2 := oz_cntp_le V (f := f) (p := x)
      have m1 : (i + 1) * oz_cntp a f (i + 1) ≤ 100 * 5 := Nat.mul_le_mul (by omega) c1
      have m2 : x * oz_cntp a f x ≤ 100 * 5 := Nat.mul_le_mul (by omega) c2
      simp (disch := first | assumption | omega) only [f_Mod_price_32, lf_lt, Option.bind_some, nI_add, pk_mul, oz_sub, oz_addm1, oz_div, oz_mod, oz_ck, oz_nz, oz_le_t, oz_le_f, oz_lt_t, oz_lt_f, oz_eq_t, oz_eq_f, oz_eqm1, oz_m1eq, oz_neg1, oz_m1lt, oz_ltm1, oz_lem1, oz_m1le, oz_mx, oz_mn, if_true, if_false, ite_true, ite_false, oz_md_r, oz_md_o, oz_md_w, oz_md_wo, oz_md_2, Sum.elim_inl, Sum.elim_inr, pl_0, pl_1, pl_2, pl_3, pl_4, pl_5, pl_6, pl_7, pl_8, pl_9, pl_10, pl_11, pl_12, pl_13, pl_100, m_earned V hf, oz_prs]
      by_cases c : x * oz_cntp a f x < (i + 1) * oz_cntp a f (i + 1)
      · rw [oz_ile_f c (by omega), if_pos c]
      · rw [oz_ile_t (by omega) (by omega), if_neg c]) 5000 (by omega)).1
  have e : oz_price a f = oz_it (fun i => oz_prs a f (i + 1)) 99 0 := by
    unfold oz_price
    rw [oz_it_shift (n := 99)]
    have : oz_prs a f 0 0 = 0 := by unfold oz_prs; split <;> rfl
    rw [this]
  rw [e]
  exact key
/-! beds alike, of a sort; lengths -/
theorem oz_tw_le (V : oz_V a) {i n : Nat} : oz_sum (fun j => if oz_bed a i 0 = oz_bed a (i + 1 + j) 0 ∧ oz_bed a i 1 = oz_bed a (i + 1 + j) 1 then 1 else 0) n ≤ n := by
  have h := oz_sum_le (f := fun j => if oz_bed a i 0 = oz_bed a (i + 1 + j) 0 ∧ oz_bed a i 1 = oz_bed a (i + 1 + j) 1 then 1 else 0) (N := n) (B := 1) (fun i _ => by split <;> omega)
  omega
theorem oz_it_add {f : Nat → Nat} {N x : Nat} : oz_it (fun i y => y + f i) N x = x + oz_sum f N := by
  induction N with
  | zero => rfl
  | succ n ih => show oz_it (fun i y => y + f i) n x + f n = x + (oz_sum f n + f n); rw [ih, Nat.add_assoc]
theorem c_twins (V : oz_V a) (C : oz_CB s q a) : f_Beds_twinPairs q s = some (nI (oz_twins a)) := by
  have h0 := oz_v0 V
  unfold oz_V0 at h0
  have inner : ∀ i x, i < a 3 → f_Beds_twinPairs_16 q (nI i) 5000 (nI x) (nI (i + 1)) s = some (nI (x + oz_tw a i)) := by
    intro i x hi
    have h1 := oz_v1 V hi
    unfold oz_V1 at h1
    have key := oz_for (N := a 3 - (i + 1)) (fun g j (x : Nat) => f_Beds_twinPairs_16 q (nI i) g (nI x) (nI (i + 1 + j)) s) (fun j x => x + if oz_bed a i 0 = oz_bed a (i + 1 + j) 0 ∧ oz_bed a i 1 = oz_bed a (i + 1 + j) 1 then 1 else 0) nI x (by
        intro g x
        simp (disch := first | assumption | omega) only [f_Beds_twinPairs_16, lf_lt, Option.bind_some, nI_add, pk_mul, oz_sub, oz_addm1, oz_div, oz_mod, oz_ck, oz_nz, oz_le_t, oz_le_f, oz_lt_t, oz_lt_f, oz_eq_t, oz_eq_f, oz_eqm1, oz_m1eq, oz_neg1, oz_m1lt, oz_ltm1, oz_lem1, oz_m1le, oz_mx, oz_mn, if_true, if_false, ite_true, ite_false, oz_md_r, oz_md_o, oz_md_w, oz_md_wo, oz_md_2, Sum.elim_inl, Sum.elim_inr, pl_0, pl_1, pl_2, pl_3, pl_4, pl_5, pl_6, pl_7, pl_8, pl_9, pl_10, pl_11, pl_12, pl_13, b_0 C]) (by
        intro g j x hj
        have hj' : i + 1 + j < a 3 := by omega
        have h2 := oz_v1 V hj'
        unfold oz_V1 at h2
        by_cases c : oz_bed a i 0 = oz_bed a (i + 1 + j) 0
        · by_cases c2 : oz_bed a i 1 = oz_bed a (i + 1 + j) 1
          · rw [if_pos ⟨c, c2⟩]
            simp (disch := first | assumption | omega) only [f_Beds_twinPairs_16, lf_lt, Option.bind_some, nI_add, pk_mul, oz_sub, oz_addm1, oz_div, oz_mod, oz_ck, oz_nz, oz_le_t, oz_le_f, oz_lt_t, oz_lt_f, oz_eq_t, oz_eq_f, oz_eqm1, oz_m1eq, oz_neg1, oz_m1lt, oz_ltm1, oz_lem1, oz_m1le, oz_mx, oz_mn, if_true, if_false, ite_true, ite_false, oz_md_r, oz_md_o, oz_md_w, oz_md_wo, oz_md_2, Sum.elim_inl, Sum.elim_inr, pl_0, pl_1, pl_2, pl_3, pl_4, pl_5, pl_6, pl_7, pl_8, pl_9, pl_10, pl_11, pl_12, pl_13, b_0 C, b_1 C hi, b_1 C hj', b_2 C hi, b_2 C hj']; rfl
          · rw [if_neg (fun z => c2 z.2)]
            simp (disch := first | assumption | omega) only [f_Beds_twinPairs_16, lf_lt, Option.bind_some, nI_add, pk_mul, oz_sub, oz_addm1, oz_div, oz_mod, oz_ck, oz_nz, oz_le_t, oz_le_f, oz_lt_t, oz_lt_f, oz_eq_t, oz_eq_f, oz_eqm1, oz_m1eq, oz_neg1, oz_m1lt, oz_ltm1, oz_lem1, oz_m1le, oz_mx, oz_mn, if_true, if_false, ite_true, ite_false, oz_md_r, oz_md_o, oz_md_w, oz_md_wo, oz_md_2, Sum.elim_inl, Sum.elim_inr, pl_0, pl_1, pl_2, pl_3, pl_4, pl_5, pl_6, pl_7, pl_8, pl_9, pl_10, pl_11, pl_12, pl_13, b_0 C, b_1 C hi, b_1 C hj', b_2 C hi, b_2 C hj']; rfl
        · rw [if_neg (fun z => c z.1)]
          simp (disch := first | assumption | omega) only [f_Beds_twinPairs_16, lf_lt, Option.bind_some, nI_add, pk_mul, oz_sub, oz_addm1, oz_div, oz_mod, oz_ck, oz_nz, oz_le_t, oz_le_f, oz_lt_t, oz_lt_f, oz_eq_t, oz_eq_f, oz_eqm1, oz_m1eq, oz_neg1, oz_m1lt, oz_ltm1, oz_lem1, oz_m1le, oz_mx, oz_mn, if_true, if_false, ite_true, ite_false, oz_md_r, oz_md_o, oz_md_w, oz_md_wo, oz_md_2, Sum.elim_inl, Sum.elim_inr, pl_0, pl_1, pl_2, pl_3, pl_4, pl_5, pl_6, pl_7, pl_8, pl_9, pl_10, pl_11, pl_12, pl_13, b_0 C, b_1 C hi, b_1 C hj']; rfl) 5000 (by omega)
    rw [oz_it_add (f := fun j => if oz_bed a i 0 = oz_bed a (i + 1 + j) 0 ∧ oz_bed a i 1 = oz_bed a (i + 1 + j) 1 then 1 else 0)] at key
    exact key
  have key := oz_for (N := a 3) (fun g i (x : Nat) => f_Beds_twinPairs_4 q g (nI x) (nI i) s) (fun i x => x + oz_tw a i) nI 0 (by
      intro g x
      simp (disch := first | assumption | omega) only [f_Beds_twinPairs_4, lf_lt, Option.bind_some, nI_add, pk_mul, oz_sub, oz_addm1, oz_div, oz_mod, oz_ck, oz_nz, oz_le_t, oz_le_f, oz_lt_t, oz_lt_f, oz_eq_t, oz_eq_f, oz_eqm1, oz_m1eq, oz_neg1, oz_m1lt, oz_ltm1, oz_lem1, oz_m1le, oz_mx, oz_mn, if_true, if_false, ite_true, ite_false, oz_md_r, oz_md_o, oz_md_w, oz_md_wo, oz_md_2, Sum.elim_inl, Sum.elim_inr, pl_0, pl_1, pl_2, pl_3, pl_4, pl_5, pl_6, pl_7, pl_8, pl_9, pl_10, pl_11, pl_12, pl_13, b_0 C]) (by
      intro g i x hi
      simp (disch := first | assumption | omega) only [f_Beds_twinPairs_4, lf_lt, Option.bind_some, nI_add, pk_mul, oz_sub, oz_addm1, oz_div, oz_mod, oz_ck, oz_nz, oz_le_t, oz_le_f, oz_lt_t, oz_lt_f, oz_eq_t, oz_eq_f, oz_eqm1, oz_m1eq, oz_neg1, oz_m1lt, oz_ltm1, oz_lem1, oz_m1le, oz_mx, oz_mn, if_true, if_false, ite_true, ite_false, oz_md_r, oz_md_o, oz_md_w, oz_md_wo, oz_md_2, Sum.elim_inl, Sum.elim_inr, pl_0, pl_1, pl_2, pl_3, pl_4, pl_5, pl_6, pl_7, pl_8, pl_9, pl_10, pl_11, pl_12, pl_13, b_0 C, inner i x hi]) 5000 (by omega)
  rw [oz_it_sum] at key
  unfold f_Beds_twinPairs
  try dsimp only at key
  simp only [lf_lt, pl_0, key, Option.bind_some]; rfl
theorem m_twins (V : oz_V a) : f_Mod_twins_9 5000 (nI 0) (nI 0) (oz_md s a) = some (nI (oz_twins a), oz_md s a) := by
  have h0 := oz_v0 V
  unfold oz_V0 at h0
  have inner : ∀ i x, i < a 3 → f_Mod_twins_23 (nI i) 5000 (nI x) (nI (i + 1)) (oz_md s a) = some (nI (x + oz_tw a i), oz_md s a) := by
    intro i x hi
    have h1 := oz_v1 V hi
    unfold oz_V1 at h1
    have key := oz_for (N := a 3 - (i + 1)) (fun g j (x : Nat) => f_Mod_twins_23 (nI i) g (nI x) (nI (i + 1 + j)) (oz_md s a)) (fun j x => x + if oz_bed a i 0 = oz_bed a (i + 1 + j) 0 ∧ oz_bed a i 1 = oz_bed a (i + 1 + j) 1 then 1 else 0) (fun x => (nI x, oz_md s a)) x (by
        intro g x
        simp (disch := first | assumption | omega) only [f_Mod_twins_23, lf_lt, Option.bind_some, nI_add, pk_mul, oz_sub, oz_addm1, oz_div, oz_mod, oz_ck, oz_nz, oz_le_t, oz_le_f, oz_lt_t, oz_lt_f, oz_eq_t, oz_eq_f, oz_eqm1, oz_m1eq, oz_neg1, oz_m1lt, oz_ltm1, oz_lem1, oz_m1le, oz_mx, oz_mn, if_true, if_false, ite_true, ite_false, oz_md_r, oz_md_o, oz_md_w, oz_md_wo, oz_md_2, Sum.elim_inl, Sum.elim_inr, pl_0, pl_1, pl_2, pl_3, pl_4, pl_5, pl_6, pl_7, pl_8, pl_9, pl_10, pl_11, pl_12, pl_13]) (by
        intro g j x hj
        have hj' : i + 1 + j < a 3 := by omega
        have h2 := oz_v1 V hj'
        unfold oz_V1 at h2
        by_cases c : oz_bed a i 0 = oz_bed a (i + 1 + j) 0
        · by_cases c2 : oz_bed a i 1 = oz_bed a (i + 1 + j) 1
          · rw [if_pos ⟨c, c2⟩]
            simp (disch := first | assumption | omega) only [f_Mod_twins_23, lf_lt, Option.bind_some, nI_add, pk_mul, oz_sub, oz_addm1, oz_div, oz_mod, oz_ck, oz_nz, oz_le_t, oz_le_f, oz_lt_t, oz_lt_f, oz_eq_t, oz_eq_f, oz_eqm1, oz_m1eq, oz_neg1, oz_m1lt, oz_ltm1, oz_lem1, oz_m1le, oz_mx, oz_mn, if_true, if_false, ite_true, ite_false, oz_md_r, oz_md_o, oz_md_w, oz_md_wo, oz_md_2, Sum.elim_inl, Sum.elim_inr, pl_0, pl_1, pl_2, pl_3, pl_4, pl_5, pl_6, pl_7, pl_8, pl_9, pl_10, pl_11, pl_12, pl_13, m_ofBed]; rfl
          · rw [if_neg (fun z => c2 z.2)]
            simp (disch := first | assumption | omega) only [f_Mod_twins_23, lf_lt, Option.bind_some, nI_add, pk_mul, oz_sub, oz_addm1, oz_div, oz_mod, oz_ck, oz_nz, oz_le_t, oz_le_f, oz_lt_t, oz_lt_f, oz_eq_t, oz_eq_f, oz_eqm1, oz_m1eq, oz_neg1, oz_m1lt, oz_ltm1, oz_lem1, oz_m1le, oz_mx, oz_mn, if_true, if_false, ite_true, ite_false, oz_md_r, oz_md_o, oz_md_w, oz_md_wo, oz_md_2, Sum.elim_inl, Sum.elim_inr, pl_0, pl_1, pl_2, pl_3, pl_4, pl_5, pl_6, pl_7, pl_8, pl_9, pl_10, pl_11, pl_12, pl_13, m_ofBed]; rfl
        · rw [if_neg (fun z => c z.1)]
          simp (disch := first | assumption | omega) only [f_Mod_twins_23, lf_lt, Option.bind_some, nI_add, pk_mul, oz_sub, oz_addm1, oz_div, oz_mod, oz_ck, oz_nz, oz_le_t, oz_le_f, oz_lt_t, oz_lt_f, oz_eq_t, oz_eq_f, oz_eqm1, oz_m1eq, oz_neg1, oz_m1lt, oz_ltm1, oz_lem1, oz_m1le, oz_mx, oz_mn, if_true, if_false, ite_true, ite_false, oz_md_r, oz_md_o, oz_md_w, oz_md_wo, oz_md_2, Sum.elim_inl, Sum.elim_inr, pl_0, pl_1, pl_2, pl_3, pl_4, pl_5, pl_6, pl_7, pl_8, pl_9, pl_10, pl_11, pl_12, pl_13, m_ofBed]; rfl) 5000 (by omega)
    rw [oz_it_add (f := fun j => if oz_bed a i 0 = oz_bed a (i + 1 + j) 0 ∧ oz_bed a i 1 = oz_bed a (i + 1 + j) 1 then 1 else 0)] at key
    exact key
  have key := oz_for (N := a 3) (fun g i (x : Nat) => f_Mod_twins_9 g (nI x) (nI i) (oz_md s a)) (fun i x => x + oz_tw a i) (fun x => (nI x, oz_md s a)) 0 (by
      intro g x
      simp (disch := first | assumption | omega) only [f_Mod_twins_9, lf_lt, Option.bind_some, nI_add, pk_mul, oz_sub, oz_addm1, oz_div, oz_mod, oz_ck, oz_nz, oz_le_t, oz_le_f, oz_lt_t, oz_lt_f, oz_eq_t, oz_eq_f, oz_eqm1, oz_m1eq, oz_neg1, oz_m1lt, oz_ltm1, oz_lem1, oz_m1le, oz_mx, oz_mn, if_true, if_false, ite_true, ite_false, oz_md_r, oz_md_o, oz_md_w, oz_md_wo, oz_md_2, Sum.elim_inl, Sum.elim_inr, pl_0, pl_1, pl_2, pl_3, pl_4, pl_5, pl_6, pl_7, pl_8, pl_9, pl_10, pl_11, pl_12, pl_13]) (by
      intro g i x hi
      simp (disch := first | assumption | omega) only [f_Mod_twins_9, lf_lt, Option.bind_some, nI_add, pk_mul, oz_sub, oz_addm1, oz_div, oz_mod, oz_ck, oz_nz, oz_le_t, oz_le_f, oz_lt_t, oz_lt_f, oz_eq_t, oz_eq_f, oz_eqm1, oz_m1eq, oz_neg1, oz_m1lt, oz_ltm1, oz_lem1, oz_m1le, oz_mx, oz_mn, if_true, if_false, ite_true, ite_false, oz_md_r, oz_md_o, oz_md_w, oz_md_wo, oz_md_2, Sum.elim_inl, Sum.elim_inr, pl_0, pl_1, pl_2, pl_3, pl_4, pl_5, pl_6, pl_7, pl_8, pl_9, pl_10, pl_11, pl_12, pl_13, inner i x hi]) 5000 (by omega)
  rw [oz_it_sum] at key
  exact key
theorem c_ofSort (V : oz_V a) (C : oz_CB s q a) {f : Nat} (hf : f ≤ 2) : f_Beds_ofSort q (nI f) s = some (nI (oz_set (fun i => oz_bed a i 0 == f) (a 3))) := by
  have h0 := oz_v0 V
  unfold oz_V0 at h0
  have key := (oz_forI (N := a 3) (fun i x => x < 2 ^ i) (fun g i (x : Nat) => f_Beds_ofSort_4 q (nI f) g (nI x) (nI i) s) (fun i x => if oz_bed a i 0 == f then x ||| 2 ^ i else x) nI 0 (by decide) (by
      intro i x hi hx
      have h3 : 2 ^ i < 2 ^ (i + 1) := Nat.pow_lt_pow_right (by omega) (by omega)
      try dsimp only
      split
      · exact Nat.or_lt_two_pow (by omega) h3
      · omega) (by
      intro g x hx
      simp (disch := first | assumption | omega) only [f_Beds_ofSort_4, lf_lt, Option.bind_some, nI_add, pk_mul, oz_sub, oz_addm1, oz_div, oz_mod, oz_ck, oz_nz, oz_le_t, oz_le_f, oz_lt_t, oz_lt_f, oz_eq_t, oz_eq_f, oz_eqm1, oz_m1eq, oz_neg1, oz_m1lt, oz_ltm1, oz_lem1, oz_m1le, oz_mx, oz_mn, if_true, if_false, ite_true, ite_false, oz_md_r, oz_md_o, oz_md_w, oz_md_wo, oz_md_2, Sum.elim_inl, Sum.elim_inr, pl_0, pl_1, pl_2, pl_3, pl_4, pl_5, pl_6, pl_7, pl_8, pl_9, pl_10, pl_11, pl_12, pl_13, b_0 C]) (by
      intro g i x hi hx
      have hp2 := oz_p2 i (by omega)
      have h1 := oz_v1 V hi
      unfold oz_V1 at h1
      by_cases c : oz_bed a i 0 = f
      · rw [if_pos (by rw [c]; exact beq_self_eq_true f)]
        simp (disch := first | assumption | omega) only [f_Beds_ofSort_4, lf_lt, Option.bind_some, nI_add, pk_mul, oz_sub, oz_addm1, oz_div, oz_mod, oz_ck, oz_nz, oz_le_t, oz_le_f, oz_lt_t, oz_lt_f, oz_eq_t, oz_eq_f, oz_eqm1, oz_m1eq, oz_neg1, oz_m1lt, oz_ltm1, oz_lem1, oz_m1le, oz_mx, oz_mn, if_true, if_false, ite_true, ite_false, oz_md_r, oz_md_o, oz_md_w, oz_md_wo, oz_md_2, Sum.elim_inl, Sum.elim_inr, pl_0, pl_1, pl_2, pl_3, pl_4, pl_5, pl_6, pl_7, pl_8, pl_9, pl_10, pl_11, pl_12, pl_13, pl_31, b_0 C, b_1 C hi, oz_shl1, oz_bvor]
      · rw [if_neg (by simpa using c)]
        simp (disch := first | assumption | omega) only [f_Beds_ofSort_4, lf_lt, Option.bind_some, nI_add, pk_mul, oz_sub, oz_addm1, oz_div, oz_mod, oz_ck, oz_nz, oz_le_t, oz_le_f, oz_lt_t, oz_lt_f, oz_eq_t, oz_eq_f, oz_eqm1, oz_m1eq, oz_neg1, oz_m1lt, oz_ltm1, oz_lem1, oz_m1le, oz_mx, oz_mn, if_true, if_false, ite_true, ite_false, oz_md_r, oz_md_o, oz_md_w, oz_md_wo, oz_md_2, Sum.elim_inl, Sum.elim_inr, pl_0, pl_1, pl_2, pl_3, pl_4, pl_5, pl_6, pl_7, pl_8, pl_9, pl_10, pl_11, pl_12, pl_13, pl_31, b_0 C, b_1 C hi]) 5000 (by omega)).1
  rw [oz_set_it (P := fun i => oz_bed a i 0 == f)] at key
  unfold f_Beds_ofSort
  try dsimp only at key
  simp only [lf_lt, pl_0, key, Option.bind_some]
theorem m_sortLoop (V : oz_V a) {f : Nat} (hf : f ≤ 2) : f_Mod_sort_31 (nI f) 5000 (nI 0) (nI 0) (oz_md s a) = some (nI (oz_set (fun i => oz_bed a i 0 == f) (a 3)), oz_md s a) := by
  have h0 := oz_v0 V
  unfold oz_V0 at h0
  have key := (oz_forI (N := a 3) (fun i x => x < 2 ^ i) (fun g i (x : Nat) => f_Mod_sort_31 (nI f) g (nI x) (nI i) (oz_md s a)) (fun i x => if oz_bed a i 0 == f then x ||| 2 ^ i else x) (fun x => (nI x, oz_md s a)) 0 (by decide) (by
      intro i x hi hx
      have h3 : 2 ^ i < 2 ^ (i + 1) := Nat.pow_lt_pow_right (by omega) (by omega)
      try dsimp only
      split
      · exact Nat.or_lt_two_pow (by omega) h3
      · omega) (by
      intro g x hx
      simp (disch := first | assumption | omega) only [f_Mod_sort_31, lf_lt, Option.bind_some, nI_add, pk_mul, oz_sub, oz_addm1, oz_div, oz_mod, oz_ck, oz_nz, oz_le_t, oz_le_f, oz_lt_t, oz_lt_f, oz_eq_t, oz_eq_f, oz_eqm1, oz_m1eq, oz_neg1, oz_m1lt, oz_ltm1, oz_lem1, oz_m1le, oz_mx, oz_mn, if_true, if_false, ite_true, ite_false, oz_md_r, oz_md_o, oz_md_w, oz_md_wo, oz_md_2, Sum.elim_inl, Sum.elim_inr, pl_0, pl_1, pl_2, pl_3, pl_4, pl_5, pl_6, pl_7, pl_8, pl_9, pl_10, pl_11, pl_12, pl_13]) (by
      intro g i x hi hx
      have hp2 := oz_p2 i (by omega)
      have hx2 : x < 4294967296 := Nat.lt_of_lt_of_le hx (by omega)
      have h1 := oz_v1 V hi
      unfold oz_V1 at h1
      by_cases c : oz_bed a i 0 = f
      · rw [if_pos (by rw [c]; exact beq_self_eq_true f)]
        simp (disch := first | assumption | omega) only [f_Mod_sort_31, lf_lt, Option.bind_some, nI_add, pk_mul, oz_sub, oz_addm1, oz_div, oz_mod, oz_ck, oz_nz, oz_le_t, oz_le_f, oz_lt_t, oz_lt_f, oz_eq_t, oz_eq_f, oz_eqm1, oz_m1eq, oz_neg1, oz_m1lt, oz_ltm1, oz_lem1, oz_m1le, oz_mx, oz_mn, if_true, if_false, ite_true, ite_false, oz_md_r, oz_md_o, oz_md_w, oz_md_wo, oz_md_2, Sum.elim_inl, Sum.elim_inr, pl_0, pl_1, pl_2, pl_3, pl_4, pl_5, pl_6, pl_7, pl_8, pl_9, pl_10, pl_11, pl_12, pl_13, pl_31, m_ofBed, oz_shl1, oz_bvor]
      · rw [if_neg (by simpa using c)]
        simp (disch := first | assumption | omega) only [f_Mod_sort_31, lf_lt, Option.bind_some, nI_add, pk_mul, oz_sub, oz_addm1, oz_div, oz_mod, oz_ck, oz_nz, oz_le_t, oz_le_f, oz_lt_t, oz_lt_f, oz_eq_t, oz_eq_f, oz_eqm1, oz_m1eq, oz_neg1, oz_m1lt, oz_ltm1, oz_lem1, oz_m1le, oz_mx, oz_mn, if_true, if_false, ite_true, ite_false, oz_md_r, oz_md_o, oz_md_w, oz_md_wo, oz_md_2, Sum.elim_inl, Sum.elim_inr, pl_0, pl_1, pl_2, pl_3, pl_4, pl_5, pl_6, pl_7, pl_8, pl_9, pl_10, pl_11, pl_12, pl_13, pl_31, m_ofBed, oz_bvor, Nat.or_zero]) 5000 (by omega)).1
  rw [oz_set_it (P := fun i => oz_bed a i 0 == f)] at key
  exact key
theorem c_lengths (V : oz_V a) (C : oz_CS s 33 a) : f_Main_lengths s = some (nI (oz_set (fun i => decide (0 < oz_sto a (i + 1))) 6)) := by
  have key := (oz_forI (N := 6) (fun i x => x < 2 ^ i) (fun g i (x : Nat) => f_Main_lengths_4 g (nI x) (nI (i + 1)) s) (fun i x => if decide (0 < oz_sto a (i + 1)) then x ||| 2 ^ i else x) nI 0 (by decide) (by
      intro i x hi hx
      have h3 : 2 ^ i < 2 ^ (i + 1) := Nat.pow_lt_pow_right (by omega) (by omega)
      try dsimp only
      split
      · exact Nat.or_lt_two_pow (by omega) h3
      · omega) (by
      intro g x hx
      simp (disch := first | assumption | omega) only [f_Main_lengths_4, lf_lt, Option.bind_some, nI_add, pk_mul, oz_sub, oz_addm1, oz_div, oz_mod, oz_ck, oz_nz, oz_le_t, oz_le_f, oz_lt_t, oz_lt_f, oz_eq_t, oz_eq_f, oz_eqm1, oz_m1eq, oz_neg1, oz_m1lt, oz_ltm1, oz_lem1, oz_m1le, oz_mx, oz_mn, if_true, if_false, ite_true, ite_false, oz_md_r, oz_md_o, oz_md_w, oz_md_wo, oz_md_2, Sum.elim_inl, Sum.elim_inr, pl_0, pl_1, pl_2, pl_3, pl_4, pl_5, pl_6, pl_7, pl_8, pl_9, pl_10, pl_11, pl_12, pl_13]) (by
      intro g i x hi hx
      have hp2 := oz_p2 i (by omega)
      have h5 := oz_v5 V (f := i + 1) (by omega) (by omega)
      have hC : s.1 33 (i + 1) = nI (oz_sto a (i + 1)) := C (i + 1) (by omega) (by omega)
      by_cases c : 0 < oz_sto a (i + 1)
      · rw [decide_eq_true c, if_pos rfl]
        simp (disch := first | assumption | omega) only [f_Main_lengths_4, lf_lt, Option.bind_some, nI_add, pk_mul, oz_sub, oz_addm1, oz_div, oz_mod, oz_ck, oz_nz, oz_le_t, oz_le_f, oz_lt_t, oz_lt_f, oz_eq_t, oz_eq_f, oz_eqm1, oz_m1eq, oz_neg1, oz_m1lt, oz_ltm1, oz_lem1, oz_m1le, oz_mx, oz_mn, if_true, if_false, ite_true, ite_false, oz_md_r, oz_md_o, oz_md_w, oz_md_wo, oz_md_2, Sum.elim_inl, Sum.elim_inr, pl_0, pl_1, pl_2, pl_3, pl_4, pl_5, pl_6, pl_7, pl_8, pl_9, pl_10, pl_11, pl_12, pl_13, pl_31, hC, oz_shl1, oz_bvor, Nat.add_sub_cancel]
      · rw [decide_eq_false c, if_neg (by simp)]
        simp (disch := first | assumption | omega) only [f_Main_lengths_4, lf_lt, Option.bind_some, nI_add, pk_mul, oz_sub, oz_addm1, oz_div, oz_mod, oz_ck, oz_nz, oz_le_t, oz_le_f, oz_lt_t, oz_lt_f, oz_eq_t, oz_eq_f, oz_eqm1, oz_m1eq, oz_neg1, oz_m1lt, oz_ltm1, oz_lem1, oz_m1le, oz_mx, oz_mn, if_true, if_false, ite_true, ite_false, oz_md_r, oz_md_o, oz_md_w, oz_md_wo, oz_md_2, Sum.elim_inl, Sum.elim_inr, pl_0, pl_1, pl_2, pl_3, pl_4, pl_5, pl_6, pl_7, pl_8, pl_9, pl_10, pl_11, pl_12, pl_13, pl_31, hC]) 5000 (by omega)).1
  rw [oz_set_it (P := fun i => decide (0 < oz_sto a (i + 1)))] at key
  unfold f_Main_lengths
  try dsimp only at key
  rw [Nat.zero_add] at key
  simp only [lf_lt, pl_0, pl_1, key, Option.bind_some]
theorem m_lengthsLoop (V : oz_V a) : f_Mod_lengths_9 5000 (nI 0) (nI 1) (oz_md s a) = some (nI (oz_set (fun i => decide (0 < oz_sto a (i + 1))) 6), oz_md s a) := by
  have key := (oz_forI (N := 6) (fun i x => x < 2 ^ i) (fun g i (x : Nat) => f_Mod_lengths_9 g (nI x) (nI (i + 1)) (oz_md s a)) (fun i x => if decide (0 < oz_sto a (i + 1)) then x ||| 2 ^ i else x) (fun x => (nI x, oz_md s a)) 0 (by decide) (by
      intro i x hi hx
      have h3 : 2 ^ i < 2 ^ (i + 1) := Nat.pow_lt_pow_right (by omega) (by omega)
      try dsimp only
      split
      · exact Nat.or_lt_two_pow (by omega) h3
      · omega) (by
      intro g x hx
      simp (disch := first | assumption | omega) only [f_Mod_lengths_9, lf_lt, Option.bind_some, nI_add, pk_mul, oz_sub, oz_addm1, oz_div, oz_mod, oz_ck, oz_nz, oz_le_t, oz_le_f, oz_lt_t, oz_lt_f, oz_eq_t, oz_eq_f, oz_eqm1, oz_m1eq, oz_neg1, oz_m1lt, oz_ltm1, oz_lem1, oz_m1le, oz_mx, oz_mn, if_true, if_false, ite_true, ite_false, oz_md_r, oz_md_o, oz_md_w, oz_md_wo, oz_md_2, Sum.elim_inl, Sum.elim_inr, pl_0, pl_1, pl_2, pl_3, pl_4, pl_5, pl_6, pl_7, pl_8, pl_9, pl_10, pl_11, pl_12, pl_13]) (by
      intro g i x hi hx
      have hp2 := oz_p2 i (by omega)
      have hx2 : x < 4294967296 := Nat.lt_of_lt_of_le hx (by omega)
      have h5 := oz_v5 V (f := i + 1) (by omega) (by omega)
      by_cases c : 0 < oz_sto a (i + 1)
      · rw [decide_eq_true c, if_pos rfl]
        simp (disch := first | assumption | omega) only [f_Mod_lengths_9, lf_lt, Option.bind_some, nI_add, pk_mul, oz_sub, oz_addm1, oz_div, oz_mod, oz_ck, oz_nz, oz_le_t, oz_le_f, oz_lt_t, oz_lt_f, oz_eq_t, oz_eq_f, oz_eqm1, oz_m1eq, oz_neg1, oz_m1lt, oz_ltm1, oz_lem1, oz_m1le, oz_mx, oz_mn, if_true, if_false, ite_true, ite_false, oz_md_r, oz_md_o, oz_md_w, oz_md_wo, oz_md_2, Sum.elim_inl, Sum.elim_inr, pl_0, pl_1, pl_2, pl_3, pl_4, pl_5, pl_6, pl_7, pl_8, pl_9, pl_10, pl_11, pl_12, pl_13, pl_31, m_stored, oz_shl1, oz_bvor, Nat.add_sub_cancel]
      · rw [decide_eq_false c, if_neg (by simp)]
        simp (disch := first | assumption | omega) only [f_Mod_lengths_9, lf_lt, Option.bind_some, nI_add, pk_mul, oz_sub, oz_addm1, oz_div, oz_mod, oz_ck, oz_nz, oz_le_t, oz_le_f, oz_lt_t, oz_lt_f, oz_eq_t, oz_eq_f, oz_eqm1, oz_m1eq, oz_neg1, oz_m1lt, oz_ltm1, oz_lem1, oz_m1le, oz_mx, oz_mn, if_true, if_false, ite_true, ite_false, oz_md_r, oz_md_o, oz_md_w, oz_md_wo, oz_md_2, Sum.elim_inl, Sum.elim_inr, pl_0, pl_1, pl_2, pl_3, pl_4, pl_5, pl_6, pl_7, pl_8, pl_9, pl_10, pl_11, pl_12, pl_13, pl_31, m_stored, oz_bvor, Nat.or_zero]) 5000 (by omega)).1
  rw [oz_set_it (P := fun i => decide (0 < oz_sto a (i + 1)))] at key
  exact key
/-! the oldest, the richest, the ablest -/
theorem c_firstGreatest {a0 n0 n : Nat} {val : Nat → Nat} (hn : n ≤ n0) (hn0 : n0 ≤ 6) (hv : ∀ i, i < n → s.1 a0 i = nI (val i) ∧ val i ≤ 99) : f_Main_firstGreatest a0 n0 (nI n) s = some (oz_en (oz_fg val n)) := by
  have key := (oz_forI (N := n) (fun i x => ∀ b, x = some b → b < i) (fun g i (x : Option Nat) => f_Main_firstGreatest_4 a0 n0 (nI n) g (oz_en x) (nI i) s) (oz_fgs val) oz_en none (fun b h => by cases h) (by
      intro i x hi hx b hb
      unfold oz_fgs at hb
      cases x with
      | none => cases hb; omega
      | some k =>
        have := hx k rfl
        try dsimp only at hb
        split at hb
        · cases hb; omega
        · cases hb; omega) (by
      intro g x hx
      simp (disch := first | assumption | omega) only [f_Main_firstGreatest_4, lf_lt, Option.bind_some, nI_add, pk_mul, oz_sub, oz_addm1, oz_div, oz_mod, oz_ck, oz_nz, oz_le_t, oz_le_f, oz_lt_t, oz_lt_f, oz_eq_t, oz_eq_f, oz_eqm1, oz_m1eq, oz_neg1, oz_m1lt, oz_ltm1, oz_lem1, oz_m1le, oz_mx, oz_mn, if_true, if_false, ite_true, ite_false, oz_md_r, oz_md_o, oz_md_w, oz_md_wo, oz_md_2, Sum.elim_inl, Sum.elim_inr, pl_0, pl_1, pl_2, pl_3, pl_4, pl_5, pl_6, pl_7, pl_8, pl_9, pl_10, pl_11, pl_12, pl_13]) (by
      intro g i x hi hx
      cases x with
      | none =>
        unfold oz_en oz_fgs
        simp (disch := first | assumption | omega) only [f_Main_firstGreatest_4, lf_lt, Option.bind_some, nI_add, pk_mul, oz_sub, oz_addm1, oz_div, oz_mod, oz_ck, oz_nz, oz_le_t, oz_le_f, oz_lt_t, oz_lt_f, oz_eq_t, oz_eq_f, oz_eqm1, oz_m1eq, oz_neg1, oz_m1lt, oz_ltm1, oz_lem1, oz_m1le, oz_mx, oz_mn, if_true, if_false, ite_true, ite_false, oz_md_r, oz_md_o, oz_md_w, oz_md_wo, oz_md_2, Sum.elim_inl, Sum.elim_inr, pl_0, pl_1, pl_2, pl_3, pl_4, pl_5, pl_6, pl_7, pl_8, pl_9, pl_10, pl_11, pl_12, pl_13]
      | some k =>
        have hk := hx k rfl
        have v1 := hv i hi
        have v2 := hv k (by omega)
        unfold oz_en oz_fgs
        simp (disch := first | assumption | omega) only [f_Main_firstGreatest_4, lf_lt, Option.bind_some, nI_add, pk_mul, oz_sub, oz_addm1, oz_div, oz_mod, oz_ck, oz_nz, oz_le_t, oz_le_f, oz_lt_t, oz_lt_f, oz_eq_t, oz_eq_f, oz_eqm1, oz_m1eq, oz_neg1, oz_m1lt, oz_ltm1, oz_lem1, oz_m1le, oz_mx, oz_mn, if_true, if_false, ite_true, ite_false, oz_md_r, oz_md_o, oz_md_w, oz_md_wo, oz_md_2, Sum.elim_inl, Sum.elim_inr, pl_0, pl_1, pl_2, pl_3, pl_4, pl_5, pl_6, pl_7, pl_8, pl_9, pl_10, pl_11, pl_12, pl_13, v1.1, v2.1]
        by_cases c : val k < val i
        · rw [oz_ile_f c (by omega), if_pos c]
        · rw [oz_ile_t (by omega) (by omega), if_neg c]) 5000 (by omega)).1
  unfold f_Main_firstGreatest
  try dsimp only at key
  have e : oz_en none = oz_N := rfl
  rw [e] at key
  simp only [lf_lt, pl_0, pl_1, oz_neg1, key, Option.bind_some]; rfl
theorem m_mostLoop {w n : Nat} {val : Nat → Nat} (hn : n ≤ 6) (hw : ∀ i, i < n → f_Mod_valueOf (nI w) (nI i) (oz_md s a) = some (nI (val i)) ∧ val i ≤ 99) : f_Mod_most_66 (nI w) (nI n) 5000 oz_N (nI 0) (oz_md s a) = some (oz_en (oz_fg val n), oz_md s a) := by
  have key := (oz_forI (N := n) (fun i x => ∀ b, x = some b → b < i) (fun g i (x : Option Nat) => f_Mod_most_66 (nI w) (nI n) g (oz_en x) (nI i) (oz_md s a)) (oz_fgs val) (fun x => (oz_en x, oz_md s a)) none (fun b h => by cases h) (by
      intro i x hi hx b hb
      unfold oz_fgs at hb
      cases x with
      | none => cases hb; omega
      | some k =>
        have := hx k rfl
        try dsimp only at hb
        split at hb
        · cases hb; omega
        · cases hb; omega) (by
      intro g x hx
      simp (disch := first | assumption | omega) only [f_Mod_most_66, lf_lt, Option.bind_some, nI_add, pk_mul, oz_sub, oz_addm1, oz_div, oz_mod, oz_ck, oz_nz, oz_le_t, oz_le_f, oz_lt_t, oz_lt_f, oz_eq_t, oz_eq_f, oz_eqm1, oz_m1eq, oz_neg1, oz_m1lt, oz_ltm1, oz_lem1, oz_m1le, oz_mx, oz_mn, if_true, if_false, ite_true, ite_false, oz_md_r, oz_md_o, oz_md_w, oz_md_wo, oz_md_2, Sum.elim_inl, Sum.elim_inr, pl_0, pl_1, pl_2, pl_3, pl_4, pl_5, pl_6, pl_7, pl_8, pl_9, pl_10, pl_11, pl_12, pl_13]) (by
      intro g i x hi hx
      cases x with
      | none =>
        unfold oz_en oz_fgs
        simp (disch := first | assumption | omega) only [f_Mod_most_66, lf_lt, Option.bind_some, nI_add, pk_mul, oz_sub, oz_addm1, oz_div, oz_mod, oz_ck, oz_nz, oz_le_t, oz_le_f, oz_lt_t, oz_lt_f, oz_eq_t, oz_eq_f, oz_eqm1, oz_m1eq, oz_neg1, oz_m1lt, oz_ltm1, oz_lem1, oz_m1le, oz_mx, oz_mn, if_true, if_false, ite_true, ite_false, oz_md_r, oz_md_o, oz_md_w, oz_md_wo, oz_md_2, Sum.elim_inl, Sum.elim_inr, pl_0, pl_1, pl_2, pl_3, pl_4, pl_5, pl_6, pl_7, pl_8, pl_9, pl_10, pl_11, pl_12, pl_13]
      | some k =>
        have hk := hx k rfl
        have v1 := hw i hi
        have v2 := hw k (by omega)
        unfold oz_en oz_fgs
        simp (disch := first | assumption | omega) only [f_Mod_most_66, lf_lt, Option.bind_some, nI_add, pk_mul, oz_sub, oz_addm1, oz_div, oz_mod, oz_ck, oz_nz, oz_le_t, oz_le_f, oz_lt_t, oz_lt_f, oz_eq_t, oz_eq_f, oz_eqm1, oz_m1eq, oz_neg1, oz_m1lt, oz_ltm1, oz_lem1, oz_m1le, oz_mx, oz_mn, if_true, if_false, ite_true, ite_false, oz_md_r, oz_md_o, oz_md_w, oz_md_wo, oz_md_2, Sum.elim_inl, Sum.elim_inr, pl_0, pl_1, pl_2, pl_3, pl_4, pl_5, pl_6, pl_7, pl_8, pl_9, pl_10, pl_11, pl_12, pl_13, v1.1, v2.1]
        by_cases c : val k < val i
        · rw [oz_ile_f c (by omega), if_pos c]
        · rw [oz_ile_t (by omega) (by omega), if_neg c]) 5000 (by omega)).1
  exact key
end
