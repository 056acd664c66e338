/-! ===== bundles shared out ===== -/
def oz_shv (a : Nat → Nat) (L : Nat → Nat) (h : Nat) : Nat := oz_sk a h / (L h + 1)
def oz_shs (a : Nat → Nat) (L : Nat → Nat) : Nat → Nat := match oz_fg (oz_shv a L) (a 5) with
  | none => L
  | some t => oz_up L t (L t + 1)
def oz_sh (a : Nat → Nat) (n : Nat) : Nat → Nat := oz_it (fun _ L => oz_shs a L) n (fun _ => 0)
theorem oz_fg_some {val : Nat → Nat} : ∀ n, 0 < n → ∃ t, oz_fg val n = some t := by
  intro n
  induction n with
  | zero => intro h; omega
  | succ n ih =>
    intro _
    show ∃ t, oz_fgs val n (oz_fg val n) = some t
    cases oz_fg val n with
    | none => exact ⟨n, rfl⟩
    | some b =>
      unfold oz_fgs
      try dsimp only
      split
      · exact ⟨n, rfl⟩
      · exact ⟨b, rfl⟩
section
variable {s : lf_S} {q : Nat} {a : Nat → Nat}
theorem oz_sh_le : ∀ n h, oz_sh a n h ≤ n := by
  intro n
  induction n with
  | zero => intro h; exact Nat.le_refl _
  | succ n ih =>
    intro h
    show oz_shs a (oz_sh a n) h ≤ n + 1
    unfold oz_shs
    cases oz_fg (oz_shv a (oz_sh a n)) (a 5) with
    | none => have := ih h; show oz_sh a n h ≤ _; omega
    | some t =>
      show oz_up (oz_sh a n) t (oz_sh a n t + 1) h ≤ _
      unfold oz_up
      have := ih h
      have := ih t
      split <;> omega
theorem oz_shv_le (V : oz_V a) {L : Nat → Nat} {h : Nat} (hh : h < a 5) : oz_shv a L h ≤ 9 := by
  have h3 := oz_v3 V hh
  unfold oz_V3 at h3
  exact Nat.le_trans (Nat.div_le_self _ _) h3.2.1
theorem c_nextToGive (V : oz_V a) (C : oz_CH s q a) {L : Nat → Nat} (hL : ∀ h, h < a 5 → s.1 7 h = nI (L h) ∧ L h ≤ 99) : f_Ways_nextToGive q s = some (oz_en (oz_fg (oz_shv a L) (a 5))) := by
  have h0 := oz_v0 V
  unfold oz_V0 at h0
  have key := (oz_forI (N := a 5) (fun i x => ∀ b, x = some b → b < i) (fun g i (x : Option Nat) => f_Ways_nextToGive_7 q g (oz_en x) (match x with
    | none => nI 0
    | some b => nI (oz_shv a L b)) (nI i) s) (oz_fgs (oz_shv a L)) oz_en none (fun b h => by cases h) (by
      intro i x hi hx b hb
      unfold oz_fgs at hb
      cases x with
      | none => cases hb; omega
      | some k =>
        have := hx k rfl
        try dsimp only at hb
        split at hb
        · cases hb; omega
        · cases hb; omega) (by
      intro g x hx
      rw [f_Ways_nextToGive_7, h_0 C, oz_ile_t (by omega) (by omega)]) (by
      intro g i x hi hx
      have h3 := oz_v3 V hi
      unfold oz_V3 at h3
      have hl := hL i hi
      have v1 := oz_shv_le V (L := L) hi
      have e1 : nI (oz_sk a i) / nI (L i + 1) = nI (oz_shv a L i) := oz_div (by omega) (by omega) (by omega)
      cases x with
      | none =>
        unfold oz_en oz_fgs
        simp (disch := first | assumption | omega) only [f_Ways_nextToGive_7, lf_lt, Option.bind_some, nI_add, pk_mul, oz_sub, oz_addm1, oz_div, oz_mod, oz_ck, oz_nz, oz_le_t, oz_le_f, oz_lt_t, oz_lt_f, oz_eq_t, oz_eq_f, oz_eqm1, oz_m1eq, oz_neg1, oz_m1lt, oz_ltm1, oz_lem1, oz_m1le, oz_mx, oz_mn, if_true, if_false, ite_true, ite_false, oz_md_r, oz_md_o, oz_md_w, oz_md_wo, oz_md_2, Sum.elim_inl, Sum.elim_inr, pl_0, pl_1, pl_2, pl_3, pl_4, pl_5, pl_6, pl_7, pl_8, pl_9, pl_10, pl_11, pl_12, pl_13, h_0 C, h_1 C hi, hl.1]
        rfl
      | some k =>
        have hk := hx k rfl
        have v2 := oz_shv_le V (L := L) (show k < a 5 by omega)
        unfold oz_en oz_fgs
        try dsimp only
        by_cases c : oz_shv a L k < oz_shv a L i
        · rw [if_pos c]
          simp (disch := first | assumption | omega) only [f_Ways_nextToGive_7, lf_lt, pl_0, pl_1, oz_neg1, h_0 C, h_1 C hi, hl.1, oz_ck, nI_add, oz_nz, e1, oz_le_f, if_false, oz_eqm1]
        · rw [if_neg c]
          simp (disch := first | assumption | omega) only [f_Ways_nextToGive_7, lf_lt, pl_0, pl_1, oz_neg1, h_0 C, h_1 C hi, hl.1, oz_ck, nI_add, oz_nz, e1, oz_le_f, oz_le_t, if_false, if_true, oz_eqm1]) 5000 (by omega)).1
  unfold f_Ways_nextToGive
  try dsimp only at key
  have e : oz_en none = oz_N := rfl
  rw [e] at key
  simp only [lf_lt, pl_0, pl_1, oz_neg1, key, Option.bind_some]; rfl
/-- what is laid ready for trying -/
theorem c_beginTrying : ∃ t, f_Ways_beginTrying s = some t ∧ t.1 3 5 = oz_N ∧ (∀ i, i < 8 → t.1 7 i = nI 0 ∧ t.1 6 i = oz_N) ∧ oz_fr (fun p => p = 3 ∨ p = 6 ∨ p = 7) s t ∧ (∀ j, j ≠ 5 → t.1 3 j = s.1 3 j) := by
  obtain ⟨t, k1, g1, g2⟩ := oz_forE (N := 8) (fun j (t : lf_S) => (∀ i, i < j → t.1 7 i = nI 0 ∧ t.1 6 i = oz_N) ∧ oz_fr (fun p => p = 6 ∨ p = 7) (lf_w s 3 5 oz_N) t) (fun f j t => f_Ways_beginTrying_7 f (nI j) t) (fun t => t) (by
      intro f t ht
      simp (disch := first | assumption | omega) only [f_Ways_beginTrying_7, lf_lt, Option.bind_some, nI_add, pk_mul, oz_sub, oz_addm1, oz_div, oz_mod, oz_ck, oz_nz, oz_le_t, oz_le_f, oz_lt_t, oz_lt_f, oz_eq_t, oz_eq_f, oz_eqm1, oz_m1eq, oz_neg1, oz_m1lt, oz_ltm1, oz_lem1, oz_m1le, oz_mx, oz_mn, if_true, if_false, ite_true, ite_false, oz_md_r, oz_md_o, oz_md_w, oz_md_wo, oz_md_2, Sum.elim_inl, Sum.elim_inr, pl_0, pl_1, pl_2, pl_3, pl_4, pl_5, pl_6, pl_7, pl_8, pl_9, pl_10, pl_11, pl_12, pl_13]) (by
      intro f j t hj ht
      refine ⟨lf_w (lf_w t 7 j (nI 0)) 6 j oz_N, ⟨fun i hi => ?_, oz_fr_tr ht.2 (oz_fr_tr (oz_fr_w (Or.inr rfl)) (oz_fr_w (Or.inl rfl)))⟩, ?_⟩
      · by_cases c : i = j
        · subst c
          exact ⟨by rw [oz_w_o (by omega)]; exact oz_w_s, oz_w_s⟩
        · have := ht.1 i (by omega)
          exact ⟨by rw [oz_w_o (by omega), oz_w_n c]; exact this.1, by rw [oz_w_n c, oz_w_o (by omega)]; exact this.2⟩
      · simp (disch := first | assumption | omega) only [f_Ways_beginTrying_7, lf_lt, Option.bind_some, nI_add, pk_mul, oz_sub, oz_addm1, oz_div, oz_mod, oz_ck, oz_nz, oz_le_t, oz_le_f, oz_lt_t, oz_lt_f, oz_eq_t, oz_eq_f, oz_eqm1, oz_m1eq, oz_neg1, oz_m1lt, oz_ltm1, oz_lem1, oz_m1le, oz_mx, oz_mn, if_true, if_false, ite_true, ite_false, oz_md_r, oz_md_o, oz_md_w, oz_md_wo, oz_md_2, Sum.elim_inl, Sum.elim_inr, pl_0, pl_1, pl_2, pl_3, pl_4, pl_5, pl_6, pl_7, pl_8, pl_9, pl_10, pl_11, pl_12, pl_13]) 8 0 5000 (lf_w s 3 5 oz_N) (by omega) (by omega) ⟨fun i h => by omega, oz_fr_rf⟩
  refine ⟨t, ?_, ?_, fun i hi => g1 i hi, oz_fr_tr (oz_fr_w (Or.inl rfl)) (oz_fr_mono g2 (fun p hp => Or.inr hp)), fun j hj => ?_⟩
  · unfold f_Ways_beginTrying
    simp only [lf_lt, pl_0, pl_1, oz_neg1, k1, Option.bind_some]
  · rw [g2.1 3 (by omega)]; exact oz_w_s
  · rw [g2.1 3 (by omega), oz_w_n hj]
theorem c_giveBundles (V : oz_V a) (C : oz_CH s q a) (hq : 10 ≤ q) (h5 : 0 < a 5) {n : Nat} (hn : n ≤ 99) : ∃ t, f_Ways_giveBundles q (nI n) s = some t ∧ (∀ h, h < a 5 → t.1 7 h = nI (oz_sh a n h)) ∧ oz_fr (fun p => p = 3 ∨ p = 6 ∨ p = 7) s t := by
  have h0 := oz_v0 V
  unfold oz_V0 at h0
  obtain ⟨t1, k1, g1, g2, g3, -⟩ := c_beginTrying (s := s)
  obtain ⟨t, k2, g4, g5⟩ := oz_forE (N := n) (fun j (t : lf_S) => (∀ h, h < a 5 → t.1 7 h = nI (oz_sh a j h)) ∧ oz_fr (fun p => p = 3 ∨ p = 6 ∨ p = 7) s t) (fun f j t => f_Ways_giveBundles_6 q (nI n) f (nI j) t) (fun t => t) (by
      intro f t ht
      rw [f_Ways_giveBundles_6, oz_ile_t (by omega) (by omega)]) (by
      intro f j t hj ht
      have Ct : oz_CH t q a := oz_CH_cg V C (fun p h1 h2 => ht.2.1 p (by omega)) rfl oz_eqr_rf
      have kn := c_nextToGive V Ct (L := oz_sh a j) (fun h hh => ⟨ht.1 h hh, Nat.le_trans (oz_sh_le j h) (by omega)⟩)
      obtain ⟨w, hw⟩ := oz_fg_some (val := oz_shv a (oz_sh a j)) (a 5) h5
      have hwl := oz_fg_lt _ _ hw
      have hl := oz_sh_le (a := a) j w
      have e : oz_sh a (j + 1) = oz_up (oz_sh a j) w (oz_sh a j w + 1) := by
        show oz_shs a (oz_sh a j) = _
        unfold oz_shs
        rw [hw]
      rw [hw] at kn
      refine ⟨lf_w t 7 w (nI (oz_sh a j w + 1)), ⟨fun h hh => ?_, oz_fr_tr ht.2 (oz_fr_w (Or.inr (Or.inr rfl)))⟩, ?_⟩
      · rw [e]
        unfold oz_up
        by_cases c : h = w
        · rw [if_pos c, c]; exact oz_w_s
        · rw [if_neg c, oz_w_n c]; exact ht.1 h hh
      · unfold oz_en at kn
        try dsimp only at kn
        simp (disch := first | assumption | omega) only [f_Ways_giveBundles_6, lf_lt, Option.bind_some, nI_add, pk_mul, oz_sub, oz_addm1, oz_div, oz_mod, oz_ck, oz_nz, oz_le_t, oz_le_f, oz_lt_t, oz_lt_f, oz_eq_t, oz_eq_f, oz_eqm1, oz_m1eq, oz_neg1, oz_m1lt, oz_ltm1, oz_lem1, oz_m1le, oz_mx, oz_mn, if_true, if_false, ite_true, ite_false, oz_md_r, oz_md_o, oz_md_w, oz_md_wo, oz_md_2, Sum.elim_inl, Sum.elim_inr, pl_0, pl_1, pl_2, pl_3, pl_4, pl_5, pl_6, pl_7, pl_8, pl_9, pl_10, pl_11, pl_12, pl_13, kn, ht.1 w hwl]) n 0 5000 t1 (by omega) (by omega) ⟨fun h hh => (g2 h (by omega)).1, g3⟩
  refine ⟨t, ?_, g4, g5⟩
  unfold f_Ways_giveBundles
  simp only [lf_lt, pl_0, k1, k2, Option.bind_some]
/-! the model -/
theorem m_shareNext (V : oz_V a) (h5 : 0 < a 5) {L : Nat → Nat} (hL : ∀ h, h < a 5 → s.1 399 h = nI (L h) ∧ L h ≤ 99) (c1 c2 c3 : Int32) : ∃ t, oz_fg (oz_shv a L) (a 5) = some t ∧ f_Mod_share_73 c1 c2 c3 5000 (nI 0) (nI 1) (oz_md s a) = some (nI t, oz_md s a) := by
  have h0 := oz_v0 V
  unfold oz_V0 at h0
  have e3 : (oz_md s a).1 399 = s.1 399 := oz_md_o (by omega)
  have key := (oz_forI (N := a 5 - 1) (fun i x => x < i + 1) (fun g i (x : Nat) => f_Mod_share_73 c1 c2 c3 g (nI x) (nI (i + 1)) (oz_md s a)) (fun i x => if oz_shv a L x < oz_shv a L (i + 1) then i + 1 else x) (fun x => (nI x, oz_md s a)) 0 (by decide) (by
      intro i x hi hx
      try dsimp only
      split <;> omega) (by
      intro g x hx
      rw [f_Mod_share_73, pl_5, oz_ck (by omega) (by omega), oz_md_r, oz_ile_t (by omega) (by omega)]) (by
      intro g i x hi hx
      have h3 := oz_v3 V (show i + 1 < a 5 by omega)
      have h4 := oz_v3 V (show x < a 5 by omega)
      unfold oz_V3 at h3 h4
      have l1 := hL (i + 1) (by omega)
      have l2 := hL x (by omega)
      have v1 := oz_shv_le V (L := L) (show i + 1 < a 5 by omega)
      have v2 := oz_shv_le V (L := L) (show x < a 5 by omega)
      have e1 : nI (oz_sk a (i + 1)) / nI (L (i + 1) + 1) = nI (oz_shv a L (i + 1)) := oz_div (by omega) (by omega) (by omega)
      have e2 : nI (oz_sk a x) / nI (L x + 1) = nI (oz_shv a L x) := oz_div (by omega) (by omega) (by omega)
      by_cases c : oz_shv a L x < oz_shv a L (i + 1)
      · rw [if_pos c]
        simp (disch := first | assumption | omega) only [f_Mod_share_73, lf_lt, pl_1, pl_5, oz_ck, oz_md_r, oz_le_f, if_false, m_skill, Option.bind_some, e3, l1.1, l2.1, nI_add, oz_nz, e1, e2]
      · rw [if_neg c]
        simp (disch := first | assumption | omega) only [f_Mod_share_73, lf_lt, pl_1, pl_5, oz_ck, oz_md_r, oz_le_f, oz_le_t, if_false, if_true, m_skill, Option.bind_some, e3, l1.1, l2.1, nI_add, oz_nz, e1, e2]) 5000 (by omega)).1
  have conv : ∀ m, oz_it (fun i (x : Option Nat) => oz_fgs (oz_shv a L) (i + 1) x) m (some 0) = some (oz_it (fun i x => if oz_shv a L x < oz_shv a L (i + 1) then i + 1 else x) m 0) := by
    intro m
    induction m with
    | zero => rfl
    | succ m ih =>
      show oz_fgs (oz_shv a L) (m + 1) (oz_it _ m (some 0)) = some (if _ then _ else _)
      rw [ih]
      unfold oz_fgs
      try dsimp only
      split <;> rfl
  refine ⟨_, ?_, key⟩
  unfold oz_fg
  rw [show a 5 = (a 5 - 1) + 1 by omega, oz_it_shift]
  exact conv _
theorem m_shareGive (V : oz_V a) (h5 : 0 < a 5) (c1 : Int32) {n : Nat} (hn : n ≤ 99) : ∃ t, ((f_Mod_share_42 c1 (nI n) 5000 (nI 0) (oz_md s a)).bind (fun p8 => f_Mod_share_62 c1 (nI n) 5000 (nI 0) p8)) = some (oz_md t a) ∧ (∀ h, h < a 5 → t.1 399 h = nI (oz_sh a n h)) ∧ oz_fr (fun p => p = 399) s t := by
  have h0 := oz_v0 V
  unfold oz_V0 at h0
  obtain ⟨t1, k1, g1, g2⟩ := oz_forE (N := 5) (fun j (t : lf_S) => (∀ i, i < j → t.1 399 i = nI 0) ∧ oz_fr (fun p => p = 399) s t) (fun f j t => f_Mod_share_42 c1 (nI n) f (nI j) (oz_md t a)) (fun t => oz_md t a) (by
      intro f t ht
      simp (disch := first | assumption | omega) only [f_Mod_share_42, lf_lt, Option.bind_some, nI_add, pk_mul, oz_sub, oz_addm1, oz_div, oz_mod, oz_ck, oz_nz, oz_le_t, oz_le_f, oz_lt_t, oz_lt_f, oz_eq_t, oz_eq_f, oz_eqm1, oz_m1eq, oz_neg1, oz_m1lt, oz_ltm1, oz_lem1, oz_m1le, oz_mx, oz_mn, if_true, if_false, ite_true, ite_false, oz_md_r, oz_md_o, oz_md_w, oz_md_wo, oz_md_2, Sum.elim_inl, Sum.elim_inr, pl_0, pl_1, pl_2, pl_3, pl_4, pl_5, pl_6, pl_7, pl_8, pl_9, pl_10, pl_11, pl_12, pl_13]) (by
      intro f j t hj ht
      refine ⟨lf_w t 399 j (nI 0), ⟨fun i hi => ?_, oz_fr_tr ht.2 (oz_fr_w rfl)⟩, ?_⟩
      · by_cases c : i = j
        · rw [c]; exact oz_w_s
        · rw [oz_w_n c]; exact ht.1 i (by omega)
      · simp (disch := first | assumption | omega) only [f_Mod_share_42, lf_lt, Option.bind_some, nI_add, pk_mul, oz_sub, oz_addm1, oz_div, oz_mod, oz_ck, oz_nz, oz_le_t, oz_le_f, oz_lt_t, oz_lt_f, oz_eq_t, oz_eq_f, oz_eqm1, oz_m1eq, oz_neg1, oz_m1lt, oz_ltm1, oz_lem1, oz_m1le, oz_mx, oz_mn, if_true, if_false, ite_true, ite_false, oz_md_r, oz_md_o, oz_md_w, oz_md_wo, oz_md_2, Sum.elim_inl, Sum.elim_inr, pl_0, pl_1, pl_2, pl_3, pl_4, pl_5, pl_6, pl_7, pl_8, pl_9, pl_10, pl_11, pl_12, pl_13]) 5 0 5000 s (by omega) (by omega) ⟨fun i h => by omega, oz_fr_rf⟩
  obtain ⟨t, k2, g4, g5⟩ := oz_forE (N := n) (fun j (t : lf_S) => (∀ h, h < a 5 → t.1 399 h = nI (oz_sh a j h)) ∧ oz_fr (fun p => p = 399) s t) (fun f j t => f_Mod_share_62 c1 (nI n) f (nI j) (oz_md t a)) (fun t => oz_md t a) (by
      intro f t ht
      rw [f_Mod_share_62, oz_ile_t (by omega) (by omega)]) (by
      intro f j t hj ht
      obtain ⟨w, hw, kn⟩ := m_shareNext V h5 (L := oz_sh a j) (s := t) (fun h hh => ⟨ht.1 h hh, Nat.le_trans (oz_sh_le j h) (by omega)⟩) c1 (nI n) (nI j)
      have hwl := oz_fg_lt _ _ hw
      have hl := oz_sh_le (a := a) j w
      have e3 : (oz_md t a).1 399 = t.1 399 := oz_md_o (by omega)
      have e : oz_sh a (j + 1) = oz_up (oz_sh a j) w (oz_sh a j w + 1) := by
        show oz_shs a (oz_sh a j) = _
        unfold oz_shs
        rw [hw]
      refine ⟨lf_w t 399 w (nI (oz_sh a j w + 1)), ⟨fun h hh => ?_, oz_fr_tr ht.2 (oz_fr_w rfl)⟩, ?_⟩
      · rw [e]
        unfold oz_up
        by_cases c : h = w
        · rw [if_pos c, c]; exact oz_w_s
        · rw [if_neg c, oz_w_n c]; exact ht.1 h hh
      · simp (disch := first | assumption | omega) only [f_Mod_share_62, lf_lt, Option.bind_some, nI_add, pk_mul, oz_sub, oz_addm1, oz_div, oz_mod, oz_ck, oz_nz, oz_le_t, oz_le_f, oz_lt_t, oz_lt_f, oz_eq_t, oz_eq_f, oz_eqm1, oz_m1eq, oz_neg1, oz_m1lt, oz_ltm1, oz_lem1, oz_m1le, oz_mx, oz_mn, if_true, if_false, ite_true, ite_false, oz_md_r, oz_md_o, oz_md_w, oz_md_wo, oz_md_2, Sum.elim_inl, Sum.elim_inr, pl_0, pl_1, pl_2, pl_3, pl_4, pl_5, pl_6, pl_7, pl_8, pl_9, pl_10, pl_11, pl_12, pl_13, kn, e3, ht.1 w hwl]) n 0 5000 t1 (by omega) (by omega) ⟨fun h hh => g1 h (by omega), g2⟩
  exact ⟨t, by rw [k1, Option.bind_some]; exact k2, g4, g5⟩
end
