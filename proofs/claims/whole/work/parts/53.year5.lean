/-! ===== years ===== -/
theorem oz_nI_mod (x : Nat) : nI (x % 4294967296) = nI x := by
  apply Int32.toBitVec_inj.mp
  apply BitVec.eq_of_toNat_eq
  show (BitVec.ofNat 32 (x % 4294967296)).toNat = (BitVec.ofNat 32 x).toNat
  rw [BitVec.toNat_ofNat, BitVec.toNat_ofNat, Nat.mod_mod]
theorem oz_usN {x : Nat} (h : x < 4294967296) : lf_us (nI x) (nI 16) = nI (x / 65536) := pk_ushrN h (nI 16) 16 (by decide +kernel)
theorem oz_and15 {x : Nat} (h : x < 4294967296) : nI x &&& nI 32767 = nI (x % 32768) := pk_andN h 15 (by decide +kernel)
theorem oz_sd_lt (x : Nat) : oz_sd x < 4294967296 := Nat.mod_lt _ (by omega)
/-- SEED goes on, and what is drawn -/
theorem oz_seed (x : Nat) : nI 1103515245 * nI x + nI 12345 = nI (oz_sd x) := by
  rw [pk_mul, nI_add]
  exact (oz_nI_mod _).symm
theorem oz_draw (x : Nat) : lf_us (nI (oz_sd x)) (nI 16) &&& nI 32767 = nI (oz_dr (oz_sd x)) := by
  have h := oz_sd_lt x
  rw [oz_usN h, oz_and15 (by omega)]; rfl
def oz_yr (a : Nat → Nat) : Nat × (Nat → Nat) := oz_yr2 (oz_wetd a)
def oz_yr0 (a : Nat → Nat) : Nat × (Nat → Nat) := oz_yr2 (oz_up a 10 0)
section
variable {s : lf_S} {a : Nat → Nat} {b : Nat}
theorem oz_wetd_V (V : oz_V a) : oz_V (oz_wetd a) := by
  have h := oz_sd_lt (a 12)
  have v1 : oz_V (oz_up a 12 (oz_sd (a 12))) := oz_V_up V (by omega)
  refine oz_V_up v1 ?_
  split <;> omega
theorem oz_yr2_V (V : oz_V a) : oz_V (oz_yr2 a).2 ∧ (oz_yr2 a).1 ≤ 6 ∧ (∀ i, i < 8 → (oz_yr2 a).2 i = a i) := by
  have h0 := oz_v0 V
  unfold oz_V0 at h0
  obtain ⟨v1, e1⟩ := oz_ages_V V (a 3) (Nat.le_refl _)
  have e1' := e1 0 13 (by omega)
  have hp := oz_pd_le v1 (oz_ages a (a 3) 5) (Nat.le_refl _)
  change (oz_pd (oz_ages a (a 3))).1 ≤ _ ∧ (oz_pd (oz_ages a (a 3))).2 ≤ 9999 at hp
  have v2 : oz_V (oz_up (oz_ages a (a 3)) 8 (oz_pd (oz_ages a (a 3))).2) := oz_V_up v1 (by omega)
  have e6 : oz_up (oz_ages a (a 3)) 8 (oz_pd (oz_ages a (a 3))).2 6 = a 6 := by rw [oz_up_n (by omega)]; exact e1' 6 (by omega) (by omega)
  have hod := oz_od_V v2 (able := (oz_pd (oz_ages a (a 3))).1) (a 6) (by omega)
  obtain ⟨v3, l3, e3, e9⟩ := hod
  refine ⟨oz_V_up v3 (by omega), Nat.le_trans l3 (by omega), fun i hi => ?_⟩
  show oz_up _ 9 _ i = a i
  rw [oz_up_n (by omega), e3 i (by omega) hi, oz_up_n (by omega)]
  exact e1' i (by omega) (by omega)
/-- the year behind the draw -/
theorem m_year2 (V : oz_V a) : (f_Mod_passes_34 5000 (nI 0) (oz_md s a)).bind (fun p7 => (f_Mod_passes_59 5000 (nI 0) (nI 0) p7).bind (fun p21 => (f_Mod_passes_121 p21.1 5000 (nI 0) (nI 0) p21.2).bind (fun p34 => lf_ck (nI 9) 766 (fun k35 => (f_Mod_lesser (nI 9999) ((p34.2.1 390 k35) + nI 1)).bind (fun p36 => lf_ck (nI 9) 766 (fun k37 => some (p34.1, lf_w p34.2 390 k37 p36))))))) = some (nI (oz_yr2 a).1, oz_md s (oz_yr2 a).2) := by
  have h0 := oz_v0 V
  unfold oz_V0 at h0
  obtain ⟨v1, e1⟩ := oz_ages_V V (a 3) (Nat.le_refl _)
  have e1' := e1 0 13 (by omega)
  have hp := oz_pd_le v1 (oz_ages a (a 3) 5) (Nat.le_refl _)
  change (oz_pd (oz_ages a (a 3))).1 ≤ _ ∧ (oz_pd (oz_ages a (a 3))).2 ≤ 9999 at hp
  have e5 := e1' 5 (by omega) (by omega)
  have v2 : oz_V (oz_up (oz_ages a (a 3)) 8 (oz_pd (oz_ages a (a 3))).2) := oz_V_up v1 (by omega)
  have e6 : oz_up (oz_ages a (a 3)) 8 (oz_pd (oz_ages a (a 3))).2 6 = a 6 := by rw [oz_up_n (by omega)]; exact e1' 6 (by omega) (by omega)
  have e9 : (oz_od (oz_up (oz_ages a (a 3)) 8 (oz_pd (oz_ages a (a 3))).2) (oz_pd (oz_ages a (a 3))).1 (a 6)).2 9 = a 9 := by
    rw [(oz_od_V v2 (able := (oz_pd (oz_ages a (a 3))).1) (a 6) (by omega)).2.2.2, oz_up_n (by omega)]
    exact e1' 9 (by omega) (by omega)
  have k1 := m_ords (s := s) v2 (able := (oz_pd (oz_ages a (a 3))).1) (by omega)
  rw [e6] at k1
  rw [m_agesAll V, Option.bind_some, m_pay v1, Option.bind_some]
  try dsimp only
  rw [k1, Option.bind_some]
  try dsimp only
  rw [oz_ck (by omega) (by omega), oz_md_r, e9, nI_add, m_lesser (by omega) (by omega), Option.bind_some, oz_ck (by omega) (by omega), oz_md_w]
  rfl
theorem m_passes0 (V : oz_V a) : f_Mod_passes (nI 0) (oz_md s a) = some (nI (oz_yr0 a).1, oz_md s (oz_yr0 a).2) := by
  have v1 : oz_V (oz_up a 10 0) := oz_V_up V (by omega)
  have k := m_year2 (s := s) v1
  unfold f_Mod_passes
  rw [if_pos (by decide +kernel)]
  simp only [lf_lt, pl_0, pl_1, pl_9, pl_10, pl_9999]
  rw [oz_ck (by omega) (by omega), oz_md_w]
  exact k
theorem m_passes1 (V : oz_V a) : f_Mod_passes (nI 1) (oz_md s a) = some (nI (oz_yr a).1, oz_md s (oz_yr a).2) := by
  have h0 := oz_v0 V
  unfold oz_V0 at h0
  have v1 := oz_wetd_V V
  have k := m_year2 (s := s) v1
  have hd : oz_dr (oz_sd (a 12)) < 32768 := Nat.mod_lt _ (by omega)
  have kd : f_Mod_draw (nI 100) (oz_md s a) = some (nI (oz_dr (oz_sd (a 12)) % 100), oz_md s (oz_up a 12 (oz_sd (a 12)))) := by
    unfold f_Mod_draw
    simp only [lf_lt, pl_12, pl_16, pl_32767, pl_12345, pl_1103515245]
    rw [oz_ck (by omega) (by omega), oz_ck (by omega) (by omega), oz_md_r, oz_seed, oz_md_w, oz_ck (by omega) (by omega), oz_md_r, oz_up_s, oz_draw, oz_nz (by omega) (by omega), oz_mod (by omega) (by omega) (by omega)]
  have e7 : oz_up a 12 (oz_sd (a 12)) 7 = a 7 := oz_up_n (by omega)
  unfold f_Mod_passes
  rw [if_neg (by decide +kernel)]
  simp only [lf_lt, pl_0, pl_1, pl_7, pl_9, pl_10, pl_9999, pl_100, kd, Option.bind_some]
  rw [oz_ck (by omega) (by omega), oz_md_r, e7]
  unfold oz_yr oz_wetd at *
  by_cases c : oz_dr (oz_sd (a 12)) % 100 < a 7
  · rw [if_pos c] at *
    rw [oz_ile_f c (by omega), oz_ck (by omega) (by omega), oz_md_w]
    exact k
  · rw [if_neg c] at *
    rw [oz_ile_t (by omega) (by omega), oz_ck (by omega) (by omega), oz_md_w]
    exact k
theorem c_year2 (V : oz_V a) (C : oz_C s b a) : ∃ t, (f_Beds_grow (b + 1) (s.1 b 11) s).bind (fun p3 => (f_Holt_payHands b p3).bind (fun p4 => (f_Holt_makeOrders b p4.1 p4.2).bind (fun p5 => some (p5.1, lf_w p5.2 b 9 (lf_mn ((p5.2.1 b 9) + nI 1) (nI 9999)))))) = some (nI (oz_yr2 a).1, t) ∧ oz_C t b (oz_yr2 a).2 ∧ oz_fr (fun p => b ≤ p ∧ p < b + 24) s t := by
  have h0 := oz_v0 V
  unfold oz_V0 at h0
  obtain ⟨v1, e1⟩ := oz_ages_V V (a 3) (Nat.le_refl _)
  have e1' := e1 0 13 (by omega)
  have hp := oz_pd_le v1 (oz_ages a (a 3) 5) (Nat.le_refl _)
  change (oz_pd (oz_ages a (a 3))).1 ≤ _ ∧ (oz_pd (oz_ages a (a 3))).2 ≤ 9999 at hp
  have e5 := e1' 5 (by omega) (by omega)
  have v2 : oz_V (oz_up (oz_ages a (a 3)) 8 (oz_pd (oz_ages a (a 3))).2) := oz_V_up v1 (by omega)
  have e6 : oz_up (oz_ages a (a 3)) 8 (oz_pd (oz_ages a (a 3))).2 6 = a 6 := by rw [oz_up_n (by omega)]; exact e1' 6 (by omega) (by omega)
  have hod := oz_od_V v2 (able := (oz_pd (oz_ages a (a 3))).1) (a 6) (by omega)
  have e9 : (oz_od (oz_up (oz_ages a (a 3)) 8 (oz_pd (oz_ages a (a 3))).2) (oz_pd (oz_ages a (a 3))).1 (a 6)).2 9 = a 9 := by
    rw [hod.2.2.2, oz_up_n (by omega)]
    exact e1' 9 (by omega) (by omega)
  obtain ⟨t1, k1, CB1, f1⟩ := c_grow V (oz_C_B C)
  have C1 : oz_C t1 b (oz_ages a (a 3)) := by
    obtain ⟨C0, CB, CK, CH, CO, CL, CS⟩ := C
    exact ⟨oz_C0_cg C0 (f1.1 b (by omega)) (e1' 0 (by omega) (by omega)) (fun i h1 h2 => e1' i (by omega) (by omega)) (e1' 12 (by omega) (by omega)), CB1, oz_CK_cg V CK (fun p h1 h2 => f1.1 p (by omega)) (e1' 4 (by omega) (by omega)) (e1 _ _ (by omega)), oz_CH_cg V CH (fun p h1 h2 => f1.1 p (by omega)) e5 (e1 _ _ (by omega)), oz_CO_cg V CO (fun p h1 h2 => f1.1 p (by omega)) (e1' 6 (by omega) (by omega)) (e1 _ _ (by omega)), oz_CL_cg V CL (fun p h1 h2 => f1.1 p (by omega)) (e1' 11 (by omega) (by omega)) (e1 _ _ (by omega)), oz_CS_cg CS (f1.1 (b + 23) (by omega)) (e1 _ _ (by omega))⟩
  have k2 := c_pay v1 C1
  have C2 := oz_C_num v1 C1 (k := 8) (i := 8) (v := (oz_pd (oz_ages a (a 3))).2) (by omega)
  obtain ⟨t3, k3, C3, f3⟩ := c_ords v2 C2 (able := (oz_pd (oz_ages a (a 3))).1) (by omega)
  rw [e6] at k3 C3
  have C4 := oz_C_num hod.1 C3 (k := 9) (i := 9) (v := min 9999 (a 9 + 1)) (by omega)
  refine ⟨lf_w t3 b 9 (nI (min 9999 (a 9 + 1))), ?_, C4, ?_⟩
  · rw [oz_C0_11 (oz_C_0 C), k1, Option.bind_some, k2, Option.bind_some]
    try dsimp only
    rw [k3, Option.bind_some]
    try dsimp only
    rw [oz_C0_9 (oz_C_0 C3), e9, nI_add, oz_mn (by omega) (by omega), Nat.min_comm]
    rfl
  · exact oz_fr_tr (oz_fr_mono f1 (fun p hp => by omega)) (oz_fr_tr (oz_fr_w (by omega)) (oz_fr_tr f3 (oz_fr_w (by omega))))
theorem c_passYear (V : oz_V a) (C : oz_C s b a) : ∃ t, f_Holt_passYear b s = some (nI (oz_yr a).1, t) ∧ oz_C t b (oz_yr a).2 ∧ oz_fr (fun p => b ≤ p ∧ p < b + 24) s t := by
  have h0 := oz_v0 V
  unfold oz_V0 at h0
  have hd : oz_dr (oz_sd (a 12)) < 32768 := Nat.mod_lt _ (by omega)
  have hsd := oz_sd_lt (a 12)
  have v1 : oz_V (oz_up a 12 (oz_sd (a 12))) := oz_V_up V (by omega)
  have C1 := oz_C_num V C (k := 10) (i := 12) (v := oz_sd (a 12)) (by omega)
  have C2 := oz_C_num v1 C1 (k := 11) (i := 10) (v := if oz_dr (oz_sd (a 12)) % 100 < a 7 then 1 else 0) (by omega)
  have kd : f_Holt_draw b s = some (nI (oz_dr (oz_sd (a 12))), lf_w s b 10 (nI (oz_sd (a 12)))) := by
    unfold f_Holt_draw
    simp only [lf_lt, pl_16, pl_32767, pl_12345, pl_1103515245, oz_C0_10 (oz_C_0 C), oz_seed, oz_w_s, oz_draw]
  have e7 : (lf_w s b 10 (nI (oz_sd (a 12)))).1 b 7 = nI (a 7) := by rw [oz_w_n (by omega)]; exact oz_C0_7 (oz_C_0 C)
  obtain ⟨t, k, C3, f3⟩ := c_year2 (oz_wetd_V V) C2
  refine ⟨t, ?_, C3, oz_fr_tr (oz_fr_w (by omega)) (oz_fr_tr (oz_fr_w (by omega)) f3)⟩
  unfold f_Holt_passYear
  rw [kd, Option.bind_some]
  try dsimp only
  simp (disch := first | assumption | omega) only [lf_lt, pl_0, pl_1, pl_9999, pl_100, e7, oz_mod]
  by_cases c : oz_dr (oz_sd (a 12)) % 100 < a 7
  · rw [if_pos c] at k
    rw [oz_ile_f c (by omega)]
    exact k
  · rw [if_neg c] at k
    rw [oz_ile_t (by omega) (by omega)]
    exact k
end
/-- so many years: how many orders were made up, and all then -/
def oz_yrs (f : (Nat → Nat) → Nat × (Nat → Nat)) (a : Nat → Nat) (n : Nat) : Nat × (Nat → Nat) := oz_it (fun _ (x : Nat × (Nat → Nat)) => (x.1 + (f x.2).1, (f x.2).2)) n (0, a)
section
variable {s : lf_S} {a : Nat → Nat} {b : Nat}
theorem oz_yr_V (V : oz_V a) : oz_V (oz_yr a).2 ∧ (oz_yr a).1 ≤ 6 ∧ (∀ i, i < 8 → (oz_yr a).2 i = a i) := by
  obtain ⟨h1, h2, h3⟩ := oz_yr2_V (oz_wetd_V V)
  refine ⟨h1, h2, fun i hi => ?_⟩
  rw [show (oz_yr a).2 i = oz_wetd a i from h3 i hi]
  unfold oz_wetd
  rw [oz_up_n (by omega), oz_up_n (by omega)]
theorem oz_yr0_V (V : oz_V a) : oz_V (oz_yr0 a).2 ∧ (oz_yr0 a).1 ≤ 6 ∧ (∀ i, i < 8 → (oz_yr0 a).2 i = a i) := by
  have v1 : oz_V (oz_up a 10 0) := oz_V_up V (by omega)
  obtain ⟨h1, h2, h3⟩ := oz_yr2_V v1
  refine ⟨h1, h2, fun i hi => ?_⟩
  rw [show (oz_yr0 a).2 i = oz_up a 10 0 i from h3 i hi]
  rw [oz_up_n (by omega)]
theorem oz_yrs_V {f : (Nat → Nat) → Nat × (Nat → Nat)} (hf : ∀ a, oz_V a → oz_V (f a).2 ∧ (f a).1 ≤ 6 ∧ (∀ i, i < 8 → (f a).2 i = a i)) (V : oz_V a) : ∀ n, oz_V (oz_yrs f a n).2 ∧ (oz_yrs f a n).1 ≤ 6 * n ∧ (∀ i, i < 8 → (oz_yrs f a n).2 i = a i) := by
  intro n
  induction n with
  | zero => exact ⟨V, Nat.le_refl _, fun _ _ => rfl⟩
  | succ n ih =>
    obtain ⟨i1, i2, i3⟩ := ih
    obtain ⟨h1, h2, h3⟩ := hf _ i1
    refine ⟨h1, ?_, fun i hi => (h3 i hi).trans (i3 i hi)⟩
    show (oz_yrs f a n).1 + (f (oz_yrs f a n).2).1 ≤ 6 * (n + 1)
    omega
theorem m_goes {d : Nat} {f : (Nat → Nat) → Nat × (Nat → Nat)} (hf : ∀ a, oz_V a → oz_V (f a).2 ∧ (f a).1 ≤ 6 ∧ (∀ i, i < 8 → (f a).2 i = a i)) (hm : ∀ s a, oz_V a → f_Mod_passes (nI d) (oz_md s a) = some (nI (f a).1, oz_md s (f a).2)) (V : oz_V a) {n : Nat} (hn : n ≤ 60) : f_Mod_goes (nI n) (nI d) (oz_md s a) = some (nI (oz_yrs f a n).1, oz_md s (oz_yrs f a n).2) := by
  obtain ⟨y, k1, k2⟩ := oz_forE (N := n) (fun i (x : Nat × (Nat → Nat)) => x = oz_yrs f a i) (fun g i x => f_Mod_goes_5 (nI n) (nI d) g (nI x.1) (nI i) (oz_md s x.2)) (fun x => (nI x.1, oz_md s x.2)) (by
      intro g x hx
      simp (disch := first | assumption | omega) only [f_Mod_goes_5, lf_lt, Option.bind_some, nI_add, pk_mul, oz_sub, oz_addm1, oz_div, oz_mod, oz_ck, oz_nz, oz_le_t, oz_le_f, oz_lt_t, oz_lt_f, oz_eq_t, oz_eq_f, oz_eqm1, oz_m1eq, oz_neg1, oz_m1lt, oz_ltm1, oz_lem1, oz_m1le, oz_mx, oz_mn, if_true, if_false, ite_true, ite_false, oz_md_r, oz_md_o, oz_md_w, oz_md_wo, oz_md_2, Sum.elim_inl, Sum.elim_inr, pl_0, pl_1, pl_2, pl_3, pl_4, pl_5, pl_6, pl_7, pl_8, pl_9, pl_10, pl_11, pl_12, pl_13]) (by
      intro g i x hi hx
      obtain ⟨v1, v2, v3⟩ := oz_yrs_V hf V i
      refine ⟨oz_yrs f a (i + 1), rfl, ?_⟩
      subst hx
      have e : oz_yrs f a (i + 1) = ((oz_yrs f a i).1 + (f (oz_yrs f a i).2).1, (f (oz_yrs f a i).2).2) := rfl
      rw [e]
      simp (disch := first | assumption | omega) only [f_Mod_goes_5, lf_lt, Option.bind_some, nI_add, pk_mul, oz_sub, oz_addm1, oz_div, oz_mod, oz_ck, oz_nz, oz_le_t, oz_le_f, oz_lt_t, oz_lt_f, oz_eq_t, oz_eq_f, oz_eqm1, oz_m1eq, oz_neg1, oz_m1lt, oz_ltm1, oz_lem1, oz_m1le, oz_mx, oz_mn, if_true, if_false, ite_true, ite_false, oz_md_r, oz_md_o, oz_md_w, oz_md_wo, oz_md_2, Sum.elim_inl, Sum.elim_inr, pl_0, pl_1, pl_2, pl_3, pl_4, pl_5, pl_6, pl_7, pl_8, pl_9, pl_10, pl_11, pl_12, pl_13, hm s _ v1]) n 0 5000 (0, a) (by omega) (by omega) rfl
  subst k2
  unfold f_Mod_goes
  try dsimp only at k1
  simp only [lf_lt, pl_0, k1, Option.bind_some]
theorem c_passYears (V : oz_V a) (C : oz_C s b a) {n : Nat} (hn : n ≤ 60) : ∃ t, f_Holt_passYears b (nI n) s = some (nI (oz_yrs oz_yr a n).1, t) ∧ oz_C t b (oz_yrs oz_yr a n).2 ∧ oz_fr (fun p => b ≤ p ∧ p < b + 24) s t := by
  obtain ⟨y, k1, k2, k3, k4⟩ := oz_forE (N := n) (fun i (x : Nat × lf_S) => x.1 = (oz_yrs oz_yr a i).1 ∧ oz_C x.2 b (oz_yrs oz_yr a i).2 ∧ oz_fr (fun p => b ≤ p ∧ p < b + 24) s x.2) (fun g i x => f_Holt_passYears_4 b (nI n) g (nI x.1) (nI i) x.2) (fun x => (nI x.1, x.2)) (by
      intro g x hx
      simp (disch := first | assumption | omega) only [f_Holt_passYears_4, lf_lt, Option.bind_some, nI_add, pk_mul, oz_sub, oz_addm1, oz_div, oz_mod, oz_ck, oz_nz, oz_le_t, oz_le_f, oz_lt_t, oz_lt_f, oz_eq_t, oz_eq_f, oz_eqm1, oz_m1eq, oz_neg1, oz_m1lt, oz_ltm1, oz_lem1, oz_m1le, oz_mx, oz_mn, if_true, if_false, ite_true, ite_false, oz_md_r, oz_md_o, oz_md_w, oz_md_wo, oz_md_2, Sum.elim_inl, Sum.elim_inr, pl_0, pl_1, pl_2, pl_3, pl_4, pl_5, pl_6, pl_7, pl_8, pl_9, pl_10, pl_11, pl_12, pl_13]) (by
      intro g i x hi hx
      obtain ⟨x1, x2⟩ := x
      obtain ⟨hx1, hx2, hx3⟩ := hx
      dsimp only at hx1 hx2 hx3
      subst hx1
      obtain ⟨v1, v2, v3⟩ := oz_yrs_V (fun a V => oz_yr_V V) V i
      obtain ⟨t, l1, l2, l3⟩ := c_passYear v1 hx2
      refine ⟨((oz_yrs oz_yr a i).1 + (oz_yr (oz_yrs oz_yr a i).2).1, t), ⟨rfl, l2, oz_fr_tr hx3 l3⟩, ?_⟩
      simp (disch := first | assumption | omega) only [f_Holt_passYears_4, lf_lt, Option.bind_some, nI_add, pk_mul, oz_sub, oz_addm1, oz_div, oz_mod, oz_ck, oz_nz, oz_le_t, oz_le_f, oz_lt_t, oz_lt_f, oz_eq_t, oz_eq_f, oz_eqm1, oz_m1eq, oz_neg1, oz_m1lt, oz_ltm1, oz_lem1, oz_m1le, oz_mx, oz_mn, if_true, if_false, ite_true, ite_false, oz_md_r, oz_md_o, oz_md_w, oz_md_wo, oz_md_2, Sum.elim_inl, Sum.elim_inr, pl_0, pl_1, pl_2, pl_3, pl_4, pl_5, pl_6, pl_7, pl_8, pl_9, pl_10, pl_11, pl_12, pl_13, l1]) n 0 5000 (0, s) (by omega) (by omega) ⟨rfl, C, oz_fr_rf⟩
  obtain ⟨y1, y2⟩ := y
  dsimp only at k1 k2 k3 k4
  subst k2
  refine ⟨y2, ?_, k3, k4⟩
  unfold f_Holt_passYears
  simp only [lf_lt, pl_0, k1, Option.bind_some]
end
