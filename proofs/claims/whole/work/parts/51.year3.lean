/-! ===== a year: hands are paid, orders made up ===== -/
def oz_mk1 (a : Nat → Nat) (o : Nat) : Nat → Nat := oz_up a (37 + oz_feet a o - 1) (oz_sto a (oz_feet a o) - oz_rods a o)
def oz_mk2 (a : Nat → Nat) (o : Nat) : Nat → Nat := oz_up (oz_mk1 a o) 8 (min 9999 (a 8 + oz_pays a o))
def oz_mk3 (a : Nat → Nat) (o : Nat) : Nat → Nat := oz_up (oz_mk2 a o) (108 + 3 * o + 2) 0
def oz_mk (a : Nat → Nat) (o w : Nat) : Nat → Nat := oz_logs (oz_mk3 a o) o w (oz_rods a o)
section
variable {s : lf_S} {a a' : Nat → Nat} {b : Nat}
theorem oz_logs_lo {w x n i : Nat} (h : i < 11) : oz_logs a w x n i = a i := oz_logs_eqr (lo := 0) (hi := 11) (by omega) (by omega) i (by omega) h
theorem oz_logs_12 {w x n : Nat} : oz_logs a w x n 12 = a 12 := oz_logs_eqr (lo := 12) (hi := 13) (by omega) (by omega) 12 (by omega) (by omega)
theorem oz_need_eq (h : oz_eqr 43 98 a a') {k : Nat} (hk : k < 5) : oz_need a' k = oz_need a k := by
  unfold oz_need
  rw [oz_bas_eq h hk (by omega), oz_bas_eq h hk (by omega), oz_bas_eq h hk (by omega)]
theorem oz_ofo_eq (V : oz_V a) (h : oz_eqr 43 98 a a') {o : Nat} (ho : o < a 6) (h0 : oz_ord a' o 0 = oz_ord a o 0) (h1 : oz_ord a' o 1 = oz_ord a o 1) : oz_rods a' o = oz_rods a o ∧ oz_feet a' o = oz_feet a o ∧ oz_pays a' o = oz_pays a o := by
  have hv := oz_v0 V
  unfold oz_V0 at hv
  have h4 := oz_v4 V ho
  unfold oz_V4 at h4
  unfold oz_rods oz_feet oz_pays
  rw [h0, h1, oz_need_eq h (by omega), oz_bas_eq h (by omega) (by omega), oz_bas_eq h (by omega) (by omega)]
  exact ⟨rfl, rfl, rfl⟩
theorem oz_mk_V (V : oz_V a) {o w : Nat} (ho : o < a 6) (hw : w ≤ 2) : oz_V (oz_mk1 a o) ∧ oz_V (oz_mk2 a o) ∧ oz_V (oz_mk3 a o) ∧ oz_V (oz_mk a o w) := by
  have hv := oz_v0 V
  unfold oz_V0 at hv
  have hr := oz_rods_le V ho
  have hst := oz_v5 V hr.2.2.1 hr.2.2.2
  have v1 : oz_V (oz_mk1 a o) := oz_V_sto V hr.2.2.1 hr.2.2.2 (by omega)
  have v2 : oz_V (oz_mk2 a o) := oz_V_up v1 (by omega)
  have e6 : oz_mk2 a o 6 = a 6 := by unfold oz_mk2 oz_mk1; rw [oz_up_n (by omega), oz_up_n (by omega)]
  have v3 : oz_V (oz_mk3 a o) := oz_V_opn v2 (by omega) (by omega)
  exact ⟨v1, v2, v3, oz_logs_V v3 (by omega) (by omega) (by omega)⟩
theorem oz_mk_eqr {o w : Nat} {lo hi : Nat} (ho : o < 6) (hf : 1 ≤ oz_feet a o ∧ oz_feet a o ≤ 6) (h : (hi ≤ 8 ∨ 9 ≤ lo) ∧ (hi ≤ 11 ∨ 12 ≤ lo) ∧ (hi ≤ 37 ∨ 43 ≤ lo) ∧ (hi ≤ 108 ∨ 366 ≤ lo)) : oz_eqr lo hi a (oz_mk a o w) := by
  refine oz_eqr_tr ?_ (oz_logs_eqr (by omega) (by omega))
  exact oz_eqr_up (oz_eqr_up (oz_eqr_up oz_eqr_rf (by omega)) (by omega)) (by omega)
theorem oz_mk_ord (V : oz_V a) {o w o' w' : Nat} (ho : o < a 6) (ho' : o' < 6) (hw' : w' < 3) : oz_ord (oz_mk a o w) o' w' = if o' = o ∧ w' = 2 then 0 else oz_ord a o' w' := by
  have hv := oz_v0 V
  unfold oz_V0 at hv
  have hr := oz_rods_le V ho
  have e : oz_eqr 108 126 (oz_mk3 a o) (oz_mk a o w) := oz_logs_eqr (by omega) (by omega)
  rw [oz_ord_eq e ho' hw']
  unfold oz_mk3
  rw [oz_ord_up (by omega) hw']
  split
  · rfl
  · exact oz_ord_eq (oz_eqr_up (oz_eqr_up oz_eqr_rf (by omega)) (by omega)) ho' hw'
theorem oz_mk1_sto {o f : Nat} (h1 : 1 ≤ f) (hf : 1 ≤ oz_feet a o) : oz_sto (oz_mk1 a o) f = if f = oz_feet a o then oz_sto a f - oz_rods a o else oz_sto a f := by
  unfold oz_mk1
  unfold oz_sto oz_up
  by_cases c : f = oz_feet a o
  · rw [if_pos c, if_pos (by omega), c]
  · rw [if_neg c, if_neg (by omega)]
theorem m_makes (V : oz_V a) {o w : Nat} (ho : o < a 6) (hw : w ≤ 2) (hh : oz_has a o = true) : f_Mod_makes (nI o) (nI w) (oz_md s a) = some (oz_md s (oz_mk a o w)) := by
  have hv := oz_v0 V
  unfold oz_V0 at hv
  have hr := oz_rods_le V ho
  have hst := oz_v5 V hr.2.2.1 hr.2.2.2
  have hh' : oz_rods a o ≤ oz_sto a (oz_feet a o) := of_decide_eq_true hh
  obtain ⟨v1, v2, v3, v4⟩ := oz_mk_V V (w := w) ho hw
  have r1 : a (37 + oz_feet a o - 1) = oz_sto a (oz_feet a o) := rfl
  have q1 : oz_up a (37 + oz_feet a o - 1) (oz_sto a (oz_feet a o) - oz_rods a o) = oz_mk1 a o := rfl
  have q2 : oz_up (oz_mk1 a o) 8 (min 9999 (a 8 + oz_pays a o)) = oz_mk2 a o := rfl
  have q3 : oz_up (oz_mk2 a o) (108 + 3 * o + 2) 0 = oz_mk3 a o := rfl
  have e1 : oz_eqr 43 126 a (oz_mk1 a o) := oz_eqr_up oz_eqr_rf (by omega)
  have e2 : oz_eqr 43 108 a (oz_mk3 a o) := oz_eqr_up (oz_eqr_up (oz_eqr_up oz_eqr_rf (by omega)) (by omega)) (by omega)
  have a8 : oz_mk1 a o 8 = a 8 := oz_up_n (by omega)
  have a6 : oz_mk1 a o 6 = a 6 := oz_up_n (by omega)
  have a6' : oz_mk3 a o 6 = a 6 := by unfold oz_mk3 oz_mk2; rw [oz_up_n (by omega), oz_up_n (by omega)]; exact a6
  have s43 : ∀ {x y : Nat → Nat}, oz_eqr 43 108 x y → oz_eqr 43 98 x y := fun h i h1 h2 => h i h1 (by omega)
  have s43' : ∀ {x y : Nat → Nat}, oz_eqr 43 126 x y → oz_eqr 43 98 x y := fun h i h1 h2 => h i h1 (by omega)
  have s108 : ∀ {x y : Nat → Nat}, oz_eqr 43 126 x y → oz_eqr 108 126 x y := fun h i h1 h2 => h i (by omega) h2
  have p1 := (oz_ofo_eq V (s43' e1) ho (oz_ord_eq (s108 e1) (by omega) (by omega)) (oz_ord_eq (s108 e1) (by omega) (by omega))).2.2
  have m0 : ∀ w', w' < 2 → oz_ord (oz_mk3 a o) o w' = oz_ord a o w' := by
    intro w' hw'
    unfold oz_mk3
    rw [oz_ord_up (by omega) (by omega), if_neg (by omega)]
    exact oz_ord_eq (oz_eqr_up (oz_eqr_up oz_eqr_rf (by omega)) (by omega)) (by omega) (by omega)
  have p2 := (oz_ofo_eq V (s43 e2) ho (m0 0 (by omega)) (m0 1 (by omega))).1
  have k1 := m_paysOf (s := s) v1 (o := o) (by omega)
  rw [p1] at k1
  have k2 := m_rodsOf (s := s) v3 (o := o) (by omega)
  rw [p2] at k2
  unfold f_Mod_makes
  simp (disch := first | assumption | omega) only [lf_lt, Option.bind_some, nI_add, pk_mul, oz_sub, oz_addm1, oz_div, oz_mod, oz_ck, oz_nz, oz_le_t, oz_le_f, oz_lt_t, oz_lt_f, oz_eq_t, oz_eq_f, oz_eqm1, oz_m1eq, oz_neg1, oz_m1lt, oz_ltm1, oz_lem1, oz_m1le, oz_mx, oz_mn, if_true, if_false, ite_true, ite_false, oz_md_r, oz_md_o, oz_md_w, oz_md_wo, oz_md_2, Sum.elim_inl, Sum.elim_inr, pl_0, pl_1, pl_2, pl_3, pl_4, pl_5, pl_6, pl_7, pl_8, pl_9, pl_10, pl_11, pl_12, pl_13, pl_37, pl_108, pl_9999, m_feetOf V ho, m_rodsOf V ho, r1, q1, k1, a8, m_lesser, q2, q3, k2, m_logs v3]
  rfl
/-! the class -/
theorem c_shut {q : Nat} (V : oz_V a) (C : oz_CO s q a) {o : Nat} (ho : o < a 6) (a2 : Nat → Nat) (h6 : a2 6 = a 6) (h2 : ∀ i w, i < a 6 → w < 3 → oz_ord a2 i w = if i = o ∧ w = 2 then 0 else oz_ord a i w) : ∃ t, f_Orders_shut q (nI o) s = some t ∧ oz_CO t q a2 ∧ oz_fr (fun p => p = q) s t := by
  have hv := oz_v0 V
  unfold oz_V0 at hv
  have hop := oz_opens_lt V
  have hbit : ∀ x, x < 64 → ∀ k, k < 6 → (nI x &&& ((nI 1 <<< (nI k &&& nI 31)) ^^^ (-nI 1))) = nI (x &&& (63 - 2 ^ k)) := by decide +kernel
  have e : oz_opens a &&& (63 - 2 ^ o) = oz_opens a2 := by
    apply Nat.eq_of_testBit_eq
    intro i
    unfold oz_opens
    rw [Nat.testBit_and, oz_set_bit, oz_set_bit, h6]
    by_cases ci : i < a 6
    · rw [decide_eq_true ci, Bool.true_and, Bool.true_and, h2 i 2 ci (by omega)]
      have h63 : ∀ k, k < 6 → ∀ j, j < 6 → (63 - 2 ^ k).testBit j = !decide (j = k) := by decide +kernel
      rw [h63 o (by omega) i (by omega)]
      by_cases cc : i = o
      · rw [if_pos ⟨cc, rfl⟩, decide_eq_true cc]; simp
      · rw [if_neg (fun z => cc z.1), decide_eq_false cc]; simp
    · rw [decide_eq_false ci]; simp
  refine ⟨lf_w s q 1 (nI (oz_opens a2)), ?_, ⟨?_, oz_w_s, fun i hi => ?_⟩, oz_fr_w rfl⟩
  · unfold f_Orders_shut
    rw [o_o C]
    simp only [lf_lt, pl_1, pl_31]
    rw [hbit _ hop o (by omega), e]
  · rw [oz_w_n (by omega), h6]; exact C.1
  · rw [h6] at hi
    rw [oz_w_o (by omega), oz_w_o (by omega), h2 i 0 hi (by omega), h2 i 1 hi (by omega), if_neg (by omega), if_neg (by omega)]
    exact C.2.2 i hi
theorem oz_C_0 (C : oz_C s b a) : oz_C0 s b a := C.1
theorem oz_C_B (C : oz_C s b a) : oz_CB s (b + 1) a := C.2.1
theorem oz_C_K (C : oz_C s b a) : oz_CK s (b + 6) a := C.2.2.1
theorem oz_C_H (C : oz_C s b a) : oz_CH s (b + 15) a := C.2.2.2.1
theorem oz_C_O (C : oz_C s b a) : oz_CO s (b + 18) a := C.2.2.2.2.1
theorem oz_C_L (C : oz_C s b a) : oz_CL s (b + 21) a := C.2.2.2.2.2.1
theorem oz_C_S (C : oz_C s b a) : oz_CS s (b + 23) a := C.2.2.2.2.2.2
theorem oz_C0_8 (C : oz_C0 s b a) : s.1 b 8 = nI (a 8) := C.2.2.1
theorem oz_C0_9 (C : oz_C0 s b a) : s.1 b 9 = nI (a 9) := C.2.2.2.1
theorem oz_C0_10 (C : oz_C0 s b a) : s.1 b 10 = nI (a 12) := C.2.2.2.2.1
theorem oz_C0_11 (C : oz_C0 s b a) : s.1 b 11 = nI (a 10) := C.2.2.2.2.2
theorem oz_C0_7 (C : oz_C0 s b a) : s.1 b 7 = nI (a 7) := C.2.1
/-- a cell of the holt itself is told anew -/
theorem oz_C0_w (C : oz_C0 s b a) {k i v : Nat} (h : (k = 7 ∧ i = 7) ∨ (k = 8 ∧ i = 8) ∨ (k = 9 ∧ i = 9) ∨ (k = 10 ∧ i = 12) ∨ (k = 11 ∧ i = 10) ∨ (k = 6 ∧ i = 0)) : oz_C0 (lf_w s b k (nI v)) b (oz_up a i v) := by
  have e : ∀ j, (lf_w s b k (nI v)).1 b j = if j = k then nI v else s.1 b j := by
    intro j
    by_cases c : j = k
    · subst c; rw [if_pos rfl]; exact oz_w_s
    · rw [if_neg c]; exact oz_w_n c
  have e2 : ∀ j, nI (oz_up a i v j) = if j = i then nI v else nI (a j) := by
    intro j
    unfold oz_up
    split <;> rfl
  obtain ⟨c1, c2, c3, c4, c5, c6⟩ := C
  unfold oz_C0
  rw [e, e, e, e, e, e, e2, e2, e2, e2, e2, e2, c1, c2, c3, c4, c5, c6]
  rcases h with ⟨rfl, rfl⟩ | ⟨rfl, rfl⟩ | ⟨rfl, rfl⟩ | ⟨rfl, rfl⟩ | ⟨rfl, rfl⟩ | ⟨rfl, rfl⟩ <;> simp
theorem c_makeUp (V : oz_V a) (C : oz_C s b a) {o w : Nat} (ho : o < a 6) (hw : w ≤ 2) (hh : oz_has a o = true) : ∃ t, f_Holt_makeUp b (nI o) (nI w) s = some t ∧ oz_C t b (oz_mk a o w) ∧ oz_fr (fun p => b ≤ p ∧ p < b + 24) s t := by
  have hv := oz_v0 V
  unfold oz_V0 at hv
  have hr := oz_rods_le V ho
  have hst := oz_v5 V hr.2.2.1 hr.2.2.2
  have hh' : oz_rods a o ≤ oz_sto a (oz_feet a o) := of_decide_eq_true hh
  obtain ⟨v1, v2, v3, v4⟩ := oz_mk_V V (w := w) ho hw
  obtain ⟨C0, CB, CK, CH, CO, CL, CS⟩ := C
  -- rods are used
  obtain ⟨s1, hS1⟩ : ∃ t, lf_w s (b + 23) (oz_feet a o) (nI (oz_sto a (oz_feet a o) - oz_rods a o)) = t := ⟨_, rfl⟩
  have hs1 : s1.1 (b + 23) (oz_feet a o) = nI (oz_sto a (oz_feet a o) - oz_rods a o) := by rw [← hS1]; exact oz_w_s
  have f1 : ∀ p, p ≠ b + 23 → s1.1 p = s.1 p := fun p hp => by rw [← hS1]; exact oz_w_o hp
  have z1 : s1.2 = s.2 := by rw [← hS1]; rfl
  have C1 : oz_C s1 b (oz_mk1 a o) := by
    refine ⟨oz_C0_cg C0 (f1 b (by omega)) (oz_up_n (by omega)) (oz_eqr_up oz_eqr_rf (by omega)) (oz_up_n (by omega)), oz_CB_cg V CB (fun p h1 h2 => f1 p (by omega)) (oz_up_n (by omega)) (oz_eqr_up oz_eqr_rf (by omega)), oz_CK_cg V CK (fun p h1 h2 => f1 p (by omega)) (oz_up_n (by omega)) (oz_eqr_up oz_eqr_rf (by omega)), oz_CH_cg V CH (fun p h1 h2 => f1 p (by omega)) (oz_up_n (by omega)) (oz_eqr_up oz_eqr_rf (by omega)), oz_CO_cg V CO (fun p h1 h2 => f1 p (by omega)) (oz_up_n (by omega)) (oz_eqr_up oz_eqr_rf (by omega)), oz_CL_cg V CL (fun p h1 h2 => f1 p (by omega)) (oz_up_n (by omega)) (oz_eqr_up oz_eqr_rf (by omega)), ?_⟩
    intro f h1 h6
    rw [oz_mk1_sto h1 (by omega)]
    by_cases c : f = oz_feet a o
    · rw [if_pos c, c]; exact hs1
    · rw [if_neg c, ← hS1, oz_w_n c]; exact CS f h1 h6
  have a61 : oz_mk1 a o 6 = a 6 := oz_up_n (by omega)
  have a81 : oz_mk1 a o 8 = a 8 := oz_up_n (by omega)
  have e1 : oz_eqr 43 126 a (oz_mk1 a o) := oz_eqr_up oz_eqr_rf (by omega)
  have s43' : ∀ {x y : Nat → Nat}, oz_eqr 43 126 x y → oz_eqr 43 98 x y := fun h i h1 h2 => h i h1 (by omega)
  have s108 : ∀ {x y : Nat → Nat}, oz_eqr 43 126 x y → oz_eqr 108 126 x y := fun h i h1 h2 => h i (by omega) h2
  have p1 := (oz_ofo_eq V (s43' e1) ho (oz_ord_eq (s108 e1) (by omega) (by omega)) (oz_ord_eq (s108 e1) (by omega) (by omega))).2.2
  have k1 := c_payFor v1 C1 (o := o) (by omega)
  rw [p1] at k1
  have k2 : s1.1 b 8 = nI (a 8) := by rw [oz_C0_8 C1.1, a81]
  -- money comes
  obtain ⟨m, hm⟩ : ∃ m, m = min 9999 (a 8 + oz_pays a o) := ⟨_, rfl⟩
  have hmk : oz_mk2 a o = oz_up (oz_mk1 a o) 8 m := by rw [hm]; rfl
  obtain ⟨s2, hS2⟩ : ∃ t, lf_w s1 b 8 (nI m) = t := ⟨_, rfl⟩
  have f2 : ∀ p, p ≠ b → s2.1 p = s1.1 p := fun p hp => by rw [← hS2]; exact oz_w_o hp
  have g2 : oz_C0 s2 b (oz_mk2 a o) := by rw [← hS2, hmk]; exact oz_C0_w C1.1 (k := 8) (i := 8) (v := m) (by omega)
  have z2 : s2.2 = s1.2 := by rw [← hS2]; rfl
  have C2 : oz_C s2 b (oz_mk2 a o) := by
    refine ⟨g2, oz_CB_cg v1 (oz_C_B C1) (fun p h1 h2 => f2 p (by omega)) (oz_up_n (by omega)) (oz_eqr_up oz_eqr_rf (by omega)), oz_CK_cg v1 (oz_C_K C1) (fun p h1 h2 => f2 p (by omega)) (oz_up_n (by omega)) (oz_eqr_up oz_eqr_rf (by omega)), oz_CH_cg v1 (oz_C_H C1) (fun p h1 h2 => f2 p (by omega)) (oz_up_n (by omega)) (oz_eqr_up oz_eqr_rf (by omega)), oz_CO_cg v1 (oz_C_O C1) (fun p h1 h2 => f2 p (by omega)) (oz_up_n (by omega)) (oz_eqr_up oz_eqr_rf (by omega)), oz_CL_cg v1 (oz_C_L C1) (fun p h1 h2 => f2 p (by omega)) (oz_up_n (by omega)) (oz_eqr_up oz_eqr_rf (by omega)), oz_CS_cg (oz_C_S C1) (f2 (b + 23) (by omega)) (oz_eqr_up oz_eqr_rf (by omega))⟩
  have a62 : oz_mk2 a o 6 = a 6 := by unfold oz_mk2; rw [oz_up_n (by omega), a61]
  -- it is shut
  obtain ⟨s3, k3, CO3, f3⟩ := c_shut v2 (oz_C_O C2) (o := o) (by omega) (oz_mk3 a o) (oz_up_n (by omega)) (fun i w' hi hw' => oz_ord_up (by omega) hw')
  have C3 : oz_C s3 b (oz_mk3 a o) := by
    refine ⟨oz_C0_cg C2.1 (f3.1 b (by omega)) (oz_up_n (by omega)) (oz_eqr_up oz_eqr_rf (by omega)) (oz_up_n (by omega)), oz_CB_cg v2 (oz_C_B C2) (fun p h1 h2 => f3.1 p (by omega)) (oz_up_n (by omega)) (oz_eqr_up oz_eqr_rf (by omega)), oz_CK_cg v2 (oz_C_K C2) (fun p h1 h2 => f3.1 p (by omega)) (oz_up_n (by omega)) (oz_eqr_up oz_eqr_rf (by omega)), oz_CH_cg v2 (oz_C_H C2) (fun p h1 h2 => f3.1 p (by omega)) (oz_up_n (by omega)) (oz_eqr_up oz_eqr_rf (by omega)), CO3, oz_CL_cg v2 (oz_C_L C2) (fun p h1 h2 => f3.1 p (by omega)) (oz_up_n (by omega)) (oz_eqr_up oz_eqr_rf (by omega)), oz_CS_cg (oz_C_S C2) (f3.1 (b + 23) (by omega)) (oz_eqr_up oz_eqr_rf (by omega))⟩
  -- and told in the log
  obtain ⟨s4, k4, CL4, f4⟩ := c_logadd v3 (oz_C_L C3) (w := o) (x := w) (n := oz_rods a o)
  have k5 : s3.1 b 9 = nI (oz_mk3 a o 9) := oz_C0_9 C3.1
  refine ⟨s4, ?_, ?_, ?_⟩
  · have mc : min (a 8 + oz_pays a o) 9999 = m := by rw [hm]; exact Nat.min_comm _ _
    have ke : f_Holt_earn b (nI (oz_pays a o)) s1 = some s2 := by
      unfold f_Holt_earn
      rw [k2, pl_9999, nI_add, oz_mn (by omega) (by omega), mc, hS2]; rfl
    unfold f_Holt_makeUp
    rw [c_rodsFor V ⟨C0, CB, CK, CH, CO, CL, CS⟩ ho, Option.bind_some]
    show ((f_Holt_feetFor b (nI o) s).bind _) = _
    rw [c_feetFor V ⟨C0, CB, CK, CH, CO, CL, CS⟩ ho, Option.bind_some, oz_ck (by omega) (by omega), oz_ck (by omega) (by omega), CS (oz_feet a o) hr.2.2.1 hr.2.2.2, oz_sub hh', hS1]
    show ((f_Holt_payFor b (nI o) s1).bind _) = _
    rw [k1, Option.bind_some, ke, Option.bind_some, k3, Option.bind_some, k5, k4]; rfl
  · refine ⟨oz_C0_cg C3.1 (f4.1 b (by omega)) (oz_logs_lo (by omega)) (oz_logs_eqr (by omega) (by omega)) (oz_logs_12), oz_CB_cg v3 (oz_C_B C3) (fun p h1 h2 => f4.1 p (by omega)) (oz_logs_lo (by omega)) (oz_logs_eqr (by omega) (by omega)), oz_CK_cg v3 (oz_C_K C3) (fun p h1 h2 => f4.1 p (by omega)) (oz_logs_lo (by omega)) (oz_logs_eqr (by omega) (by omega)), oz_CH_cg v3 (oz_C_H C3) (fun p h1 h2 => f4.1 p (by omega)) (oz_logs_lo (by omega)) (oz_logs_eqr (by omega) (by omega)), oz_CO_cg v3 (oz_C_O C3) (fun p h1 h2 => f4.1 p (by omega)) (oz_logs_lo (by omega)) (oz_logs_eqr (by omega) (by omega)), CL4, oz_CS_cg (oz_C_S C3) (f4.1 (b + 23) (by omega)) (oz_logs_eqr (by omega) (by omega))⟩
  · refine oz_fr_tr (t := s1) ⟨fun p hp => f1 p (by omega), z1⟩ (oz_fr_tr (t := s2) ⟨fun p hp => f2 p (by omega), z2⟩ (oz_fr_tr (oz_fr_mono f3 (fun p hp => by omega)) (oz_fr_mono f4 (fun p hp => by omega))))
end
