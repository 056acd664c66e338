/-! ===== what a change leaves as it was ===== -/
def oz_VB (a : Nat → Nat) : Prop := ∀ b, b < a 3 → oz_V1 a b
def oz_VK (a : Nat → Nat) : Prop := ∀ k, k < a 4 → oz_V2 a k ∧ ∀ i, i < oz_bas a k 4 → 1 ≤ oz_bas a k (5 + i) ∧ oz_bas a k (5 + i) ≤ 4
def oz_VH (a : Nat → Nat) : Prop := ∀ h, h < a 5 → oz_V3 a h
def oz_VO (a : Nat → Nat) : Prop := ∀ o, o < a 6 → oz_V4 a o
def oz_VS (a : Nat → Nat) : Prop := ∀ f, 1 ≤ f → f ≤ 6 → oz_sto a f ≤ 9999
def oz_VL (a : Nat → Nat) : Prop := ∀ i, i < 240 → a (126 + i) ≤ 9999
theorem oz_V_mk {a : Nat → Nat} (h0 : oz_V0 a) (hB : oz_VB a) (hK : oz_VK a) (hH : oz_VH a) (hO : oz_VO a) (hS : oz_VS a) (hL : oz_VL a) : oz_V a := ⟨h0, hB, hK, hH, hO, hS, hL⟩
theorem oz_V_B {a : Nat → Nat} (V : oz_V a) : oz_VB a := V.2.1
theorem oz_V_K {a : Nat → Nat} (V : oz_V a) : oz_VK a := V.2.2.1
theorem oz_V_H {a : Nat → Nat} (V : oz_V a) : oz_VH a := V.2.2.2.1
theorem oz_V_O {a : Nat → Nat} (V : oz_V a) : oz_VO a := V.2.2.2.2.1
theorem oz_V_S {a : Nat → Nat} (V : oz_V a) : oz_VS a := V.2.2.2.2.2.1
theorem oz_V_L {a : Nat → Nat} (V : oz_V a) : oz_VL a := V.2.2.2.2.2.2
/-- alike from lo on, below hi -/
def oz_eqr (lo hi : Nat) (a a' : Nat → Nat) : Prop := ∀ i, lo ≤ i → i < hi → a' i = a i
theorem oz_eqr_rf {lo hi : Nat} {a : Nat → Nat} : oz_eqr lo hi a a := fun _ _ _ => rfl
theorem oz_eqr_up {lo hi : Nat} {a a' : Nat → Nat} {k v : Nat} (h : oz_eqr lo hi a a') (hk : k < lo ∨ hi ≤ k) : oz_eqr lo hi a (oz_up a' k v) := fun i h1 h2 => (oz_up_n (by omega)).trans (h i h1 h2)
theorem oz_eqr_tr {lo hi : Nat} {a b c : Nat → Nat} (h : oz_eqr lo hi a b) (k : oz_eqr lo hi b c) : oz_eqr lo hi a c := fun i h1 h2 => (k i h1 h2).trans (h i h1 h2)
theorem oz_eqr_at {lo hi : Nat} {a a' : Nat → Nat} (h : oz_eqr lo hi a a') (i : Nat) (h1 : lo ≤ i) (h2 : i < hi) : a' i = a i := h i h1 h2
section
variable {a a' : Nat → Nat}
theorem oz_bed_eq {b w : Nat} (h : oz_eqr 13 37 a a') (hb : b < 6) (hw : w < 4) : oz_bed a' b w = oz_bed a b w := h _ (by omega) (by omega)
theorem oz_bas_eq {k w : Nat} (h : oz_eqr 43 98 a a') (hb : k < 5) (hw : w < 11) : oz_bas a' k w = oz_bas a k w := h _ (by omega) (by omega)
theorem oz_sk_eq {k : Nat} (h : oz_eqr 98 108 a a') (hb : k < 5) : oz_sk a' k = oz_sk a k := h _ (by omega) (by omega)
theorem oz_wg_eq {k : Nat} (h : oz_eqr 98 108 a a') (hb : k < 5) : oz_wg a' k = oz_wg a k := h _ (by omega) (by omega)
theorem oz_ord_eq {o w : Nat} (h : oz_eqr 108 126 a a') (hb : o < 6) (hw : w < 3) : oz_ord a' o w = oz_ord a o w := h _ (by omega) (by omega)
theorem oz_sto_eq {f : Nat} (h : oz_eqr 37 43 a a') (h1 : 1 ≤ f) (h6 : f ≤ 6) : oz_sto a' f = oz_sto a f := h _ (by omega) (by omega)
theorem oz_VB_cg (V : oz_V a) (h3 : a' 3 = a 3) (h : oz_eqr 13 37 a a') : oz_VB a' := by
  intro b hb
  have h0 := oz_v0 V
  unfold oz_V0 at h0
  rw [h3] at hb
  have := oz_v1 V hb
  unfold oz_V1 at this ⊢
  rw [oz_bed_eq h (by omega) (by omega), oz_bed_eq h (by omega) (by omega), oz_bed_eq h (by omega) (by omega), oz_bed_eq h (by omega) (by omega)]
  exact this
theorem oz_R_eq (V : oz_V a) (h : oz_eqr 43 98 a a') {k i : Nat} (hk : k < a 4) (hi : i < oz_bas a k 4) : oz_R a' k i = oz_R a k i := by
  have h0 := oz_v0 V
  unfold oz_V0 at h0
  have h2 := oz_v2 V hk
  unfold oz_V2 at h2
  exact oz_bas_eq h (by omega) (by omega)
theorem oz_obn_congr {R R' : Nat → Nat} : ∀ n, (∀ i, i < n → R i = R' i) → oz_obn R n = oz_obn R' n := by
  intro n
  induction n with
  | zero => intro _; rfl
  | succ n ih =>
    intro h
    unfold oz_obn
    rw [ih (fun i hi => h i (by omega)), h n (by omega), oz_sum_congr (fun i hi => h i (by omega))]
theorem oz_VK_cg (V : oz_V a) (h4 : a' 4 = a 4) (h : oz_eqr 43 98 a a') : oz_VK a' := by
  intro k hk
  have h0 := oz_v0 V
  unfold oz_V0 at h0
  rw [h4] at hk
  have h2 := oz_v2 V hk
  unfold oz_V2 at h2
  unfold oz_V2
  rw [oz_bas_eq h (by omega) (by omega), oz_bas_eq h (by omega) (by omega), oz_bas_eq h (by omega) (by omega), oz_bas_eq h (by omega) (by omega), oz_bas_eq h (by omega) (by omega)]
  refine ⟨h2, fun i hi => ?_⟩
  rw [oz_bas_eq h (by omega) (by omega)]
  exact oz_v2r V hk hi
theorem oz_VH_cg (V : oz_V a) (h5 : a' 5 = a 5) (h : oz_eqr 98 108 a a') : oz_VH a' := by
  intro k hk
  have h0 := oz_v0 V
  unfold oz_V0 at h0
  rw [h5] at hk
  have h2 := oz_v3 V hk
  unfold oz_V3 at h2 ⊢
  rw [oz_sk_eq h (by omega), oz_wg_eq h (by omega)]
  exact h2
theorem oz_VO_cg (V : oz_V a) (h4 : a' 4 = a 4) (h6 : a' 6 = a 6) (h : oz_eqr 108 126 a a') : oz_VO a' := by
  intro k hk
  have h0 := oz_v0 V
  unfold oz_V0 at h0
  rw [h6] at hk
  have h2 := oz_v4 V hk
  unfold oz_V4 at h2 ⊢
  rw [oz_ord_eq h (by omega) (by omega), oz_ord_eq h (by omega) (by omega), oz_ord_eq h (by omega) (by omega), h4]
  exact h2
theorem oz_VS_cg (V : oz_V a) (h : oz_eqr 37 43 a a') : oz_VS a' := by
  intro f h1 h2
  rw [oz_sto_eq h h1 h2]
  exact oz_v5 V h1 h2
theorem oz_VL_cg (V : oz_V a) (h : oz_eqr 126 366 a a') : oz_VL a' := by
  intro i hi
  rw [h _ (by omega) (by omega)]
  exact oz_v6 V hi
/-! the class's parts likewise -/
variable {s s' : lf_S} {q : Nat}
theorem oz_CB_cg (V : oz_V a) (C : oz_CB s q a) (hs : ∀ p, q ≤ p → p < q + 5 → s'.1 p = s.1 p) (h3 : a' 3 = a 3) (h : oz_eqr 13 37 a a') : oz_CB s' q a' := by
  have h0 := oz_v0 V
  unfold oz_V0 at h0
  refine ⟨by rw [hs q (by omega) (by omega), h3]; exact C.1, fun i hi => ?_⟩
  rw [h3] at hi
  rw [hs _ (by omega) (by omega), hs _ (by omega) (by omega), hs _ (by omega) (by omega), hs _ (by omega) (by omega), oz_bed_eq h (by omega) (by omega), oz_bed_eq h (by omega) (by omega), oz_bed_eq h (by omega) (by omega), oz_bed_eq h (by omega) (by omega)]
  exact C.2 i hi
theorem oz_per_eq (V : oz_V a) (h : oz_eqr 43 98 a a') {k : Nat} (hk : k < a 4) : oz_per a' k = oz_per a k := by
  have h0 := oz_v0 V
  unfold oz_V0 at h0
  unfold oz_per
  rw [oz_bas_eq h (by omega) (by omega)]
  exact oz_sum_congr (fun i hi => oz_R_eq V h hk hi)
theorem oz_ob_eq (V : oz_V a) (h : oz_eqr 43 98 a a') {k : Nat} (hk : k < a 4) : oz_ob a' k = oz_ob a k := by
  have h0 := oz_v0 V
  unfold oz_V0 at h0
  unfold oz_ob
  rw [oz_bas_eq h (by omega) (by omega)]
  exact oz_obn_congr _ (fun i hi => oz_R_eq V h hk hi)
theorem oz_CK_cg (V : oz_V a) (C : oz_CK s q a) (hs : ∀ p, q ≤ p → p < q + 9 → s'.1 p = s.1 p) (h4 : a' 4 = a 4) (h : oz_eqr 43 98 a a') : oz_CK s' q a' := by
  have h0 := oz_v0 V
  unfold oz_V0 at h0
  refine ⟨by rw [hs q (by omega) (by omega), h4]; exact C.1, fun k hk => ?_⟩
  rw [h4] at hk
  have h2 := oz_v2 V hk
  unfold oz_V2 at h2
  obtain ⟨c1, c2, c3, c4, c5, c6, c8, c7⟩ := C.2 k hk
  refine ⟨?_, ?_, ?_, ?_, ?_, ?_, ?_, fun i hi => ?_⟩
  · rw [hs _ (by omega) (by omega), oz_bas_eq h (by omega) (by omega)]; exact c1
  · rw [hs _ (by omega) (by omega), oz_bas_eq h (by omega) (by omega)]; exact c2
  · rw [hs _ (by omega) (by omega), oz_bas_eq h (by omega) (by omega)]; exact c3
  · rw [hs _ (by omega) (by omega), oz_bas_eq h (by omega) (by omega)]; exact c4
  · rw [hs _ (by omega) (by omega), oz_bas_eq h (by omega) (by omega)]; exact c5
  · rw [hs _ (by omega) (by omega), oz_per_eq V h hk]; exact c6
  · rw [hs _ (by omega) (by omega), oz_ob_eq V h hk]; exact c8
  · rw [oz_bas_eq h (by omega) (by omega)] at hi
    rw [hs _ (by omega) (by omega), oz_bas_eq h (by omega) (by omega)]; exact c7 i hi
theorem oz_CH_cg (V : oz_V a) (C : oz_CH s q a) (hs : ∀ p, q ≤ p → p < q + 3 → s'.1 p = s.1 p) (h5 : a' 5 = a 5) (h : oz_eqr 98 108 a a') : oz_CH s' q a' := by
  have h0 := oz_v0 V
  unfold oz_V0 at h0
  refine ⟨by rw [hs q (by omega) (by omega), h5]; exact C.1, fun i hi => ?_⟩
  rw [h5] at hi
  rw [hs _ (by omega) (by omega), hs _ (by omega) (by omega), oz_sk_eq h (by omega), oz_wg_eq h (by omega)]
  exact C.2 i hi
theorem oz_opens_eq (V : oz_V a) (h6 : a' 6 = a 6) (h : oz_eqr 108 126 a a') : oz_opens a' = oz_opens a := by
  have h0 := oz_v0 V
  unfold oz_V0 at h0
  unfold oz_opens
  rw [h6]
  exact oz_set_congr (fun i hi => by rw [oz_ord_eq h (by omega) (by omega)])
theorem oz_CO_cg (V : oz_V a) (C : oz_CO s q a) (hs : ∀ p, q ≤ p → p < q + 3 → s'.1 p = s.1 p) (h6 : a' 6 = a 6) (h : oz_eqr 108 126 a a') : oz_CO s' q a' := by
  have h0 := oz_v0 V
  unfold oz_V0 at h0
  refine ⟨by rw [hs q (by omega) (by omega), h6]; exact C.1, by rw [hs q (by omega) (by omega), oz_opens_eq V h6 h]; exact C.2.1, fun i hi => ?_⟩
  rw [h6] at hi
  rw [hs _ (by omega) (by omega), hs _ (by omega) (by omega), oz_ord_eq h (by omega) (by omega), oz_ord_eq h (by omega) (by omega)]
  exact C.2.2 i hi
theorem oz_CL_cg (V : oz_V a) (C : oz_CL s q a) (hs : ∀ p, q ≤ p → p < q + 2 → s'.1 p = s.1 p) (h11 : a' 11 = a 11) (h : oz_eqr 126 366 a a') : oz_CL s' q a' := by
  have h0 := oz_v0 V
  unfold oz_V0 at h0
  refine ⟨by rw [hs q (by omega) (by omega), h11]; exact C.1, fun g w hg hw => ?_⟩
  rw [h11] at hg ⊢
  rw [hs _ (by omega) (by omega), h _ (by omega) (by omega)]
  exact C.2 g w hg hw
theorem oz_CS_cg (C : oz_CS s q a) (hs : s'.1 q = s.1 q) (h : oz_eqr 37 43 a a') : oz_CS s' q a' := by
  intro f h1 h2
  rw [hs, oz_sto_eq h h1 h2]
  exact C f h1 h2
theorem oz_C0_cg {b : Nat} (C : oz_C0 s b a) (hs : s'.1 b = s.1 b) (h0 : a' 0 = a 0) (h : oz_eqr 7 11 a a') (h12 : a' 12 = a 12) : oz_C0 s' b a' := by
  obtain ⟨c1, c2, c3, c4, c5, c6⟩ := C
  refine ⟨?_, ?_, ?_, ?_, ?_, ?_⟩
  · rw [hs, h0]; exact c1
  · rw [hs, h 7 (by omega) (by omega)]; exact c2
  · rw [hs, h 8 (by omega) (by omega)]; exact c3
  · rw [hs, h 9 (by omega) (by omega)]; exact c4
  · rw [hs, h12]; exact c5
  · rw [hs, h 10 (by omega) (by omega)]; exact c6
end
theorem oz_up_id {a : Nat → Nat} {k v : Nat} (h : v = a k) : oz_up a k v = a := by
  funext j
  unfold oz_up
  by_cases c : j = k
  · subst c; rw [if_pos rfl, h]
  · rw [if_neg c]
/-! ===== a year: beds ===== -/
def oz_agA (a : Nat → Nat) (b : Nat) : Nat := if a 10 = 0 ∨ oz_bed a b 3 < 5 then min 9 (oz_bed a b 1 + 1) else oz_bed a b 1
def oz_agS (a : Nat → Nat) (b : Nat) : Nat := if oz_agA a b = 9 then max 1 (oz_bed a b 2 - 1) else oz_bed a b 2
def oz_agb (b : Nat) (a : Nat → Nat) : Nat → Nat := oz_up (oz_up a (13 + 4 * b + 1) (oz_agA a b)) (13 + 4 * b + 2) (oz_agS a b)
def oz_ages (a : Nat → Nat) (n : Nat) : Nat → Nat := oz_it oz_agb n a
section
variable {s : lf_S} {q : Nat} {a : Nat → Nat} {b : Nat}
theorem oz_bed_up {b' w v : Nat} (hw : w < 4) {w' : Nat} (hw' : w' < 4) : oz_bed (oz_up a (13 + 4 * b + w) v) b' w' = if b' = b ∧ w' = w then v else oz_bed a b' w' := by
  unfold oz_bed oz_up
  by_cases c : b' = b ∧ w' = w
  · rw [if_pos c, if_pos (by omega)]
  · rw [if_neg c, if_neg (by omega)]
theorem oz_agb_bed {b' w' : Nat} (hw' : w' < 4) : oz_bed (oz_agb b a) b' w' = if b' = b ∧ w' = 2 then oz_agS a b else if b' = b ∧ w' = 1 then oz_agA a b else oz_bed a b' w' := by
  unfold oz_agb
  rw [oz_bed_up (by omega) hw', oz_bed_up (by omega) hw']
theorem oz_agb_eqr {lo hi : Nat} (hb : b < 6) (h : hi ≤ 13 ∨ 37 ≤ lo) : oz_eqr lo hi a (oz_agb b a) := oz_eqr_up (oz_eqr_up oz_eqr_rf (by omega)) (by omega)
theorem oz_agA_le (V : oz_V a) (h : b < a 3) : oz_agA a b ≤ 9 ∧ 1 ≤ oz_agS a b ∧ oz_agS a b ≤ 99 := by
  have h1 := oz_v1 V h
  unfold oz_V1 at h1
  refine ⟨?_, ?_, ?_⟩
  · unfold oz_agA; split <;> omega
  · unfold oz_agS; split <;> omega
  · unfold oz_agS; split <;> omega
theorem oz_agb_V (V : oz_V a) (h : b < a 3) : oz_V (oz_agb b a) := by
  have h0 := oz_v0 V
  have h0' := h0
  unfold oz_V0 at h0'
  have hl := oz_agA_le V h
  have e : oz_eqr 0 13 a (oz_agb b a) := oz_agb_eqr (by omega) (by omega)
  refine oz_V_mk ?_ ?_ (oz_VK_cg V (e 4 (by omega) (by omega)) (oz_agb_eqr (by omega) (by omega))) (oz_VH_cg V (e 5 (by omega) (by omega)) (oz_agb_eqr (by omega) (by omega))) (oz_VO_cg V (e 4 (by omega) (by omega)) (e 6 (by omega) (by omega)) (oz_agb_eqr (by omega) (by omega))) (oz_VS_cg V (oz_agb_eqr (by omega) (by omega))) (oz_VL_cg V (oz_agb_eqr (by omega) (by omega)))
  · unfold oz_V0
    rw [e 0 (by omega) (by omega), e 3 (by omega) (by omega), e 4 (by omega) (by omega), e 5 (by omega) (by omega), e 6 (by omega) (by omega), e 7 (by omega) (by omega), e 8 (by omega) (by omega), e 9 (by omega) (by omega), e 10 (by omega) (by omega), e 11 (by omega) (by omega), e 12 (by omega) (by omega)]
    exact h0'
  · intro b' hb'
    rw [e 3 (by omega) (by omega)] at hb'
    have h1 := oz_v1 V hb'
    unfold oz_V1 at h1 ⊢
    rw [oz_agb_bed (by omega), oz_agb_bed (by omega), oz_agb_bed (by omega), oz_agb_bed (by omega)]
    by_cases c : b' = b
    · subst c
      simp
      omega
    · simp only [c, false_and, if_false]
      exact h1
theorem m_ages (V : oz_V a) (h : b < a 3) : f_Mod_ages (nI b) (oz_md s a) = some (oz_md s (oz_agb b a)) := by
  have h0 := oz_v0 V
  unfold oz_V0 at h0
  have h1 := oz_v1 V h
  unfold oz_V1 at h1
  have r1 : a (13 + 4 * b + 1) = oz_bed a b 1 := rfl
  have r2 : a (13 + 4 * b + 2) = oz_bed a b 2 := rfl
  have r3 : a (13 + 4 * b + 3) = oz_bed a b 3 := rfl
  have fin : ∀ A, A = oz_agA a b → (if A = 9 then some (oz_md s (oz_up (oz_up a (13 + 4 * b + 1) A) (13 + 4 * b + 2) (max 1 (oz_bed a b 2 - 1)))) else some (oz_md s (oz_up a (13 + 4 * b + 1) A))) = some (oz_md s (oz_agb b a)) := by
    intro A hA
    subst hA
    unfold oz_agb oz_agS
    by_cases c : oz_agA a b = 9
    · rw [if_pos c, if_pos c]
    · rw [if_neg c, if_neg c, oz_up_id (k := 13 + 4 * b + 2) (by rw [oz_up_n (by omega)]; rfl)]
  have n2 : ∀ v, oz_up a (13 + 4 * b + 1) v (13 + 4 * b + 2) = oz_bed a b 2 := fun v => (oz_up_n (by omega)).trans rfl
  unfold f_Mod_ages
  by_cases c : a 10 = 0
  · have hA : min 9 (oz_bed a b 1 + 1) = oz_agA a b := by unfold oz_agA; rw [if_pos (Or.inl c)]
    simp (disch := first | assumption | omega) only [lf_lt, Option.bind_some, nI_add, pk_mul, oz_sub, oz_addm1, oz_div, oz_mod, oz_ck, oz_nz, oz_le_t, oz_le_f, oz_lt_t, oz_lt_f, oz_eq_t, oz_eq_f, oz_eqm1, oz_m1eq, oz_neg1, oz_m1lt, oz_ltm1, oz_lem1, oz_m1le, oz_mx, oz_mn, if_true, if_false, ite_true, ite_false, oz_md_r, oz_md_o, oz_md_w, oz_md_wo, oz_md_2, Sum.elim_inl, Sum.elim_inr, pl_0, pl_1, pl_2, pl_3, pl_4, pl_5, pl_6, pl_7, pl_8, pl_9, pl_10, pl_11, pl_12, pl_13, r1, r2, r3, c, m_lesser, m_greater, oz_up_s, n2]
    simp (disch := first | assumption | omega) only [oz_eq]
    exact fin _ hA
  · simp (disch := first | assumption | omega) only [lf_lt, Option.bind_some, nI_add, pk_mul, oz_sub, oz_addm1, oz_div, oz_mod, oz_ck, oz_nz, oz_le_t, oz_le_f, oz_lt_t, oz_lt_f, oz_eq_t, oz_eq_f, oz_eqm1, oz_m1eq, oz_neg1, oz_m1lt, oz_ltm1, oz_lem1, oz_m1le, oz_mx, oz_mn, if_true, if_false, ite_true, ite_false, oz_md_r, oz_md_o, oz_md_w, oz_md_wo, oz_md_2, Sum.elim_inl, Sum.elim_inr, pl_0, pl_1, pl_2, pl_3, pl_4, pl_5, pl_6, pl_7, pl_8, pl_9, pl_10, pl_11, pl_12, pl_13, r1, r2, r3]
    by_cases c2 : oz_bed a b 3 < 5
    · have hA : min 9 (oz_bed a b 1 + 1) = oz_agA a b := by unfold oz_agA; rw [if_pos (Or.inr c2)]
      simp (disch := first | assumption | omega) only [lf_lt, Option.bind_some, nI_add, pk_mul, oz_sub, oz_addm1, oz_div, oz_mod, oz_ck, oz_nz, oz_le_t, oz_le_f, oz_lt_t, oz_lt_f, oz_eq_t, oz_eq_f, oz_eqm1, oz_m1eq, oz_neg1, oz_m1lt, oz_ltm1, oz_lem1, oz_m1le, oz_mx, oz_mn, if_true, if_false, ite_true, ite_false, oz_md_r, oz_md_o, oz_md_w, oz_md_wo, oz_md_2, Sum.elim_inl, Sum.elim_inr, pl_0, pl_1, pl_2, pl_3, pl_4, pl_5, pl_6, pl_7, pl_8, pl_9, pl_10, pl_11, pl_12, pl_13, r1, r2, r3, m_lesser, m_greater, oz_up_s, n2]
      simp (disch := first | assumption | omega) only [oz_eq]
      exact fin _ hA
    · have hA : oz_bed a b 1 = oz_agA a b := by unfold oz_agA; rw [if_neg (by omega)]
      have f2 := fin _ hA
      have e9 : oz_up a (13 + 4 * b + 1) (oz_bed a b 1) = a := oz_up_id rfl
      rw [e9] at f2
      simp (disch := first | assumption | omega) only [lf_lt, Option.bind_some, nI_add, pk_mul, oz_sub, oz_addm1, oz_div, oz_mod, oz_ck, oz_nz, oz_le_t, oz_le_f, oz_lt_t, oz_lt_f, oz_eq_t, oz_eq_f, oz_eqm1, oz_m1eq, oz_neg1, oz_m1lt, oz_ltm1, oz_lem1, oz_m1le, oz_mx, oz_mn, if_true, if_false, ite_true, ite_false, oz_md_r, oz_md_o, oz_md_w, oz_md_wo, oz_md_2, Sum.elim_inl, Sum.elim_inr, pl_0, pl_1, pl_2, pl_3, pl_4, pl_5, pl_6, pl_7, pl_8, pl_9, pl_10, pl_11, pl_12, pl_13, r1, r2, r3, m_lesser, m_greater]
      simp (disch := first | assumption | omega) only [oz_eq]
      exact f2
theorem oz_ages_V (V : oz_V a) : ∀ n, n ≤ a 3 → oz_V (oz_ages a n) ∧ (∀ lo hi, hi ≤ 13 ∨ 37 ≤ lo → oz_eqr lo hi a (oz_ages a n)) := by
  intro n
  have h0 := oz_v0 V
  unfold oz_V0 at h0
  induction n with
  | zero => intro _; exact ⟨V, fun _ _ _ => oz_eqr_rf⟩
  | succ n ih =>
    intro hn
    obtain ⟨i1, i2⟩ := ih (by omega)
    have e3 := i2 0 13 (by omega) 3 (by omega) (by omega)
    exact ⟨oz_agb_V i1 (show n < oz_ages a n 3 by omega), fun lo hi h => oz_eqr_tr (i2 lo hi h) (oz_agb_eqr (by omega) h)⟩
theorem m_agesAll (V : oz_V a) : f_Mod_passes_34 5000 (nI 0) (oz_md s a) = some (oz_md s (oz_ages a (a 3))) := by
  have h0 := oz_v0 V
  unfold oz_V0 at h0
  obtain ⟨y, k1, k2⟩ := oz_forE (N := a 3) (fun i (x : Nat → Nat) => x = oz_ages a i) (fun f i x => f_Mod_passes_34 f (nI i) (oz_md s x)) (fun x => oz_md s x) (by
      intro f x hx
      subst hx
      have e := (oz_ages_V V (a 3) (Nat.le_refl _)).2 0 13 (by omega) 3 (by omega) (by omega)
      simp (disch := first | assumption | omega) only [f_Mod_passes_34, lf_lt, Option.bind_some, nI_add, pk_mul, oz_sub, oz_addm1, oz_div, oz_mod, oz_ck, oz_nz, oz_le_t, oz_le_f, oz_lt_t, oz_lt_f, oz_eq_t, oz_eq_f, oz_eqm1, oz_m1eq, oz_neg1, oz_m1lt, oz_ltm1, oz_lem1, oz_m1le, oz_mx, oz_mn, if_true, if_false, ite_true, ite_false, oz_md_r, oz_md_o, oz_md_w, oz_md_wo, oz_md_2, Sum.elim_inl, Sum.elim_inr, pl_0, pl_1, pl_2, pl_3, pl_4, pl_5, pl_6, pl_7, pl_8, pl_9, pl_10, pl_11, pl_12, pl_13]) (by
      intro f i x hi hx
      subst hx
      obtain ⟨v1, v2⟩ := oz_ages_V V i (by omega)
      have e := v2 0 13 (by omega) 3 (by omega) (by omega)
      refine ⟨oz_agb i (oz_ages a i), rfl, ?_⟩
      simp (disch := first | assumption | omega) only [f_Mod_passes_34, lf_lt, Option.bind_some, nI_add, pk_mul, oz_sub, oz_addm1, oz_div, oz_mod, oz_ck, oz_nz, oz_le_t, oz_le_f, oz_lt_t, oz_lt_f, oz_eq_t, oz_eq_f, oz_eqm1, oz_m1eq, oz_neg1, oz_m1lt, oz_ltm1, oz_lem1, oz_m1le, oz_mx, oz_mn, if_true, if_false, ite_true, ite_false, oz_md_r, oz_md_o, oz_md_w, oz_md_wo, oz_md_2, Sum.elim_inl, Sum.elim_inr, pl_0, pl_1, pl_2, pl_3, pl_4, pl_5, pl_6, pl_7, pl_8, pl_9, pl_10, pl_11, pl_12, pl_13, m_ages v1 (by omega : i < oz_ages a i 3)]) (a 3) 0 5000 a (by omega) (by omega) rfl
  subst k2
  exact k1
theorem c_grow (V : oz_V a) (C : oz_CB s q a) : ∃ t, f_Beds_grow q (nI (a 10)) s = some t ∧ oz_CB t q (oz_ages a (a 3)) ∧ oz_fr (fun p => p = q + 2 ∨ p = q + 3) s t := by
  have h0 := oz_v0 V
  unfold oz_V0 at h0
  obtain ⟨t, k1, k2, k3⟩ := oz_forE (N := a 3) (fun i (x : lf_S) => oz_CB x q (oz_ages a i) ∧ oz_fr (fun p => p = q + 2 ∨ p = q + 3) s x) (fun f i x => f_Beds_grow_2 q (nI (a 10)) f (nI i) x) (fun x => x) (by
      intro f x hx
      have e := (oz_ages_V V (a 3) (Nat.le_refl _)).2 0 13 (by omega) 3 (by omega) (by omega)
      simp (disch := first | assumption | omega) only [f_Beds_grow_2, lf_lt, Option.bind_some, nI_add, pk_mul, oz_sub, oz_addm1, oz_div, oz_mod, oz_ck, oz_nz, oz_le_t, oz_le_f, oz_lt_t, oz_lt_f, oz_eq_t, oz_eq_f, oz_eqm1, oz_m1eq, oz_neg1, oz_m1lt, oz_ltm1, oz_lem1, oz_m1le, oz_mx, oz_mn, if_true, if_false, ite_true, ite_false, oz_md_r, oz_md_o, oz_md_w, oz_md_wo, oz_md_2, Sum.elim_inl, Sum.elim_inr, pl_0, pl_1, pl_2, pl_3, pl_4, pl_5, pl_6, pl_7, pl_8, pl_9, pl_10, pl_11, pl_12, pl_13, b_0 hx.1]) (by
      intro f i x hi hx
      obtain ⟨v1, v2⟩ := oz_ages_V V i (by omega)
      have e := v2 0 13 (by omega) 3 (by omega) (by omega)
      have e10 := v2 0 13 (by omega) 10 (by omega) (by omega)
      have hi' : i < oz_ages a i 3 := by omega
      obtain ⟨hC, hF⟩ := hx
      have h1 := oz_v1 v1 hi'
      unfold oz_V1 at h1
      have hl := oz_agA_le v1 hi'
      have hstep : ∀ A S, A = oz_agA (oz_ages a i) i → S = oz_agS (oz_ages a i) i → ∀ t, t.1 (q + 2) i = nI A → t.1 (q + 3) i = nI S → (∀ j, j ≠ i → t.1 (q + 2) j = x.1 (q + 2) j) → (∀ j, j ≠ i → t.1 (q + 3) j = x.1 (q + 3) j) → oz_fr (fun p => p = q + 2 ∨ p = q + 3) x t → oz_CB t q (oz_ages a (i + 1)) ∧ oz_fr (fun p => p = q + 2 ∨ p = q + 3) s t := by
        intro A S hA hS t t1 t2 t3 t4 t5
        refine ⟨⟨?_, fun j hj => ?_⟩, oz_fr_tr hF t5⟩
        · rw [t5.1 q (by omega), b_0 hC]
          show nI (oz_ages a i 3) = nI (oz_agb i (oz_ages a i) 3)
          rw [oz_agb_eqr (by omega) (by omega) 3 (Nat.zero_le _) (by omega : 3 < 13)]
        · have hj' : j < oz_ages a i 3 := by
            have : oz_ages a (i + 1) 3 = oz_ages a i 3 := oz_agb_eqr (lo := 0) (hi := 13) (by omega) (by omega) 3 (by omega) (by omega)
            omega
          show _ = nI (oz_bed (oz_agb i (oz_ages a i)) j 0) ∧ _ = nI (oz_bed (oz_agb i (oz_ages a i)) j 1) ∧ _ = nI (oz_bed (oz_agb i (oz_ages a i)) j 2) ∧ _ = nI (oz_bed (oz_agb i (oz_ages a i)) j 3)
          rw [oz_agb_bed (by omega), oz_agb_bed (by omega), oz_agb_bed (by omega), oz_agb_bed (by omega), t5.1 (q + 1) (by omega), t5.1 (q + 4) (by omega), b_1 hC hj', b_4 hC hj']
          by_cases cj : j = i
          · subst cj
            simp [t1, t2, hA, hS]
          · simp only [cj, false_and, if_false]
            rw [t3 j cj, t4 j cj, b_2 hC hj', b_3 hC hj']
            simp
      -- what the loop's body does, by cases
      have e2 : ∀ v, (lf_w x (q + 2) i v).1 (q + 3) = x.1 (q + 3) := fun v => oz_w_o (by omega)
      have mc1 : min (oz_bed (oz_ages a i) i 1 + 1) 9 = min 9 (oz_bed (oz_ages a i) i 1 + 1) := Nat.min_comm _ _
      have mc2 : max (oz_bed (oz_ages a i) i 2 - 1) 1 = max 1 (oz_bed (oz_ages a i) i 2 - 1) := Nat.max_comm _ _
      by_cases c : a 10 = 0 ∨ oz_bed (oz_ages a i) i 3 < 5
      · have hA : min 9 (oz_bed (oz_ages a i) i 1 + 1) = oz_agA (oz_ages a i) i := by unfold oz_agA; rw [e10, if_pos c]
        by_cases c9 : min 9 (oz_bed (oz_ages a i) i 1 + 1) = 9
        · refine ⟨lf_w (lf_w x (q + 2) i (nI (min 9 (oz_bed (oz_ages a i) i 1 + 1)))) (q + 3) i (nI (max 1 (oz_bed (oz_ages a i) i 2 - 1))), hstep _ (max 1 (oz_bed (oz_ages a i) i 2 - 1)) hA (by unfold oz_agS; rw [← hA, if_pos c9]) _ ?_ oz_w_s ?_ ?_ (oz_fr_tr (oz_fr_w (Or.inl rfl)) (oz_fr_w (Or.inr rfl))), ?_⟩
          · rw [oz_w_o (by omega)]; exact oz_w_s
          · intro j hj; rw [oz_w_o (by omega)]; exact oz_w_n hj
          · intro j hj; rw [oz_w_n hj, e2]
          · by_cases c0 : a 10 = 0
            · simp (disch := first | assumption | omega) only [f_Beds_grow_2, lf_lt, Option.bind_some, nI_add, pk_mul, oz_sub, oz_addm1, oz_div, oz_mod, oz_ck, oz_nz, oz_le_t, oz_le_f, oz_lt_t, oz_lt_f, oz_eq_t, oz_eq_f, oz_eqm1, oz_m1eq, oz_neg1, oz_m1lt, oz_ltm1, oz_lem1, oz_m1le, oz_mx, oz_mn, if_true, if_false, ite_true, ite_false, oz_md_r, oz_md_o, oz_md_w, oz_md_wo, oz_md_2, Sum.elim_inl, Sum.elim_inr, pl_0, pl_1, pl_2, pl_3, pl_4, pl_5, pl_6, pl_7, pl_8, pl_9, pl_10, pl_11, pl_12, pl_13, b_0 hC, b_2 hC hi', b_3 hC hi', c0, oz_w_s, e2, mc1, mc2, c9]
            · simp (disch := first | assumption | omega) only [f_Beds_grow_2, lf_lt, Option.bind_some, nI_add, pk_mul, oz_sub, oz_addm1, oz_div, oz_mod, oz_ck, oz_nz, oz_le_t, oz_le_f, oz_lt_t, oz_lt_f, oz_eq_t, oz_eq_f, oz_eqm1, oz_m1eq, oz_neg1, oz_m1lt, oz_ltm1, oz_lem1, oz_m1le, oz_mx, oz_mn, if_true, if_false, ite_true, ite_false, oz_md_r, oz_md_o, oz_md_w, oz_md_wo, oz_md_2, Sum.elim_inl, Sum.elim_inr, pl_0, pl_1, pl_2, pl_3, pl_4, pl_5, pl_6, pl_7, pl_8, pl_9, pl_10, pl_11, pl_12, pl_13, b_0 hC, b_2 hC hi', b_3 hC hi', b_4 hC hi', oz_w_s, e2, mc1, mc2, c9]
        · refine ⟨lf_w x (q + 2) i (nI (min 9 (oz_bed (oz_ages a i) i 1 + 1))), hstep _ (oz_bed (oz_ages a i) i 2) hA (by unfold oz_agS; rw [← hA, if_neg c9]) _ oz_w_s ?_ (fun j hj => oz_w_n hj) (fun j hj => by rw [e2]) (oz_fr_w (Or.inl rfl)), ?_⟩
          · rw [e2]; exact b_3 hC hi'
          · by_cases c0 : a 10 = 0
            · simp (disch := first | assumption | omega) only [f_Beds_grow_2, lf_lt, Option.bind_some, nI_add, pk_mul, oz_sub, oz_addm1, oz_div, oz_mod, oz_ck, oz_nz, oz_le_t, oz_le_f, oz_lt_t, oz_lt_f, oz_eq_t, oz_eq_f, oz_eqm1, oz_m1eq, oz_neg1, oz_m1lt, oz_ltm1, oz_lem1, oz_m1le, oz_mx, oz_mn, if_true, if_false, ite_true, ite_false, oz_md_r, oz_md_o, oz_md_w, oz_md_wo, oz_md_2, Sum.elim_inl, Sum.elim_inr, pl_0, pl_1, pl_2, pl_3, pl_4, pl_5, pl_6, pl_7, pl_8, pl_9, pl_10, pl_11, pl_12, pl_13, b_0 hC, b_2 hC hi', b_3 hC hi', c0, oz_w_s, e2, mc1, mc2]
            · simp (disch := first | assumption | omega) only [f_Beds_grow_2, lf_lt, Option.bind_some, nI_add, pk_mul, oz_sub, oz_addm1, oz_div, oz_mod, oz_ck, oz_nz, oz_le_t, oz_le_f, oz_lt_t, oz_lt_f, oz_eq_t, oz_eq_f, oz_eqm1, oz_m1eq, oz_neg1, oz_m1lt, oz_ltm1, oz_lem1, oz_m1le, oz_mx, oz_mn, if_true, if_false, ite_true, ite_false, oz_md_r, oz_md_o, oz_md_w, oz_md_wo, oz_md_2, Sum.elim_inl, Sum.elim_inr, pl_0, pl_1, pl_2, pl_3, pl_4, pl_5, pl_6, pl_7, pl_8, pl_9, pl_10, pl_11, pl_12, pl_13, b_0 hC, b_2 hC hi', b_3 hC hi', b_4 hC hi', oz_w_s, e2, mc1, mc2]
      · have hA : oz_bed (oz_ages a i) i 1 = oz_agA (oz_ages a i) i := by unfold oz_agA; rw [e10, if_neg c]
        by_cases c9 : oz_bed (oz_ages a i) i 1 = 9
        · refine ⟨lf_w x (q + 3) i (nI (max 1 (oz_bed (oz_ages a i) i 2 - 1))), hstep _ (max 1 (oz_bed (oz_ages a i) i 2 - 1)) hA (by unfold oz_agS; rw [← hA, if_pos c9]) _ ?_ oz_w_s (fun j hj => by rw [oz_w_o (by omega)]) (fun j hj => oz_w_n hj) (oz_fr_w (Or.inr rfl)), ?_⟩
          · rw [oz_w_o (by omega)]; exact b_2 hC hi'
          · simp (disch := first | assumption | omega) only [f_Beds_grow_2, lf_lt, Option.bind_some, nI_add, pk_mul, oz_sub, oz_addm1, oz_div, oz_mod, oz_ck, oz_nz, oz_le_t, oz_le_f, oz_lt_t, oz_lt_f, oz_eq_t, oz_eq_f, oz_eqm1, oz_m1eq, oz_neg1, oz_m1lt, oz_ltm1, oz_lem1, oz_m1le, oz_mx, oz_mn, if_true, if_false, ite_true, ite_false, oz_md_r, oz_md_o, oz_md_w, oz_md_wo, oz_md_2, Sum.elim_inl, Sum.elim_inr, pl_0, pl_1, pl_2, pl_3, pl_4, pl_5, pl_6, pl_7, pl_8, pl_9, pl_10, pl_11, pl_12, pl_13, b_0 hC, b_2 hC hi', b_3 hC hi', b_4 hC hi', mc2, c9]
        · refine ⟨x, hstep _ (oz_bed (oz_ages a i) i 2) hA (by unfold oz_agS; rw [← hA, if_neg c9]) _ (b_2 hC hi') (b_3 hC hi') (fun _ _ => rfl) (fun _ _ => rfl) oz_fr_rf, ?_⟩
          simp (disch := first | assumption | omega) only [f_Beds_grow_2, lf_lt, Option.bind_some, nI_add, pk_mul, oz_sub, oz_addm1, oz_div, oz_mod, oz_ck, oz_nz, oz_le_t, oz_le_f, oz_lt_t, oz_lt_f, oz_eq_t, oz_eq_f, oz_eqm1, oz_m1eq, oz_neg1, oz_m1lt, oz_ltm1, oz_lem1, oz_m1le, oz_mx, oz_mn, if_true, if_false, ite_true, ite_false, oz_md_r, oz_md_o, oz_md_w, oz_md_wo, oz_md_2, Sum.elim_inl, Sum.elim_inr, pl_0, pl_1, pl_2, pl_3, pl_4, pl_5, pl_6, pl_7, pl_8, pl_9, pl_10, pl_11, pl_12, pl_13, b_0 hC, b_2 hC hi', b_3 hC hi', b_4 hC hi']) (a 3) 0 5000 s (by omega) (by omega) ⟨C, oz_fr_rf⟩
  refine ⟨t, ?_, k2, k3⟩
  unfold f_Beds_grow
  try dsimp only at k1
  simp only [lf_lt, pl_0, k1, Option.bind_some]
end
