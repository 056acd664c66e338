/-! ===== found, look: the model's ===== -/
section
variable {s : lf_S} {T : Nat → Nat} {len : Nat}
theorem m_sees76 {H : Nat} (hH : H ≤ 20) (h4 : ∀ i, i < 2 * H → T i < (if i % 2 = 0 then 100 else 2) ∧ s.1 394 i = nI (T i)) : ∃ t, f_Mod_sees_76 (nI (2 * H)) (nI 1) 5000 (nI 0) s = some t ∧ ((∀ w, w < 450 → t.1 403 w = lf_i (oz_fw T H w)) ∧ oz_fr (fun p => p = 403) s t) := by
  exact oz_forE (N := 450) (fun i (t : lf_S) => (∀ w, w < i → t.1 403 w = lf_i (oz_fw T H w)) ∧ oz_fr (fun p => p = 403) s t) (fun f i t => f_Mod_sees_76 (nI (2 * H)) (nI 1) f (nI i) t) (fun t => t) (by
      intro f x hx
      rw [f_Mod_sees_76, pl_450, oz_ile_t (by omega) (by omega)]) (by
      intro f w x hw hx
      obtain ⟨i1, i2⟩ := hx
      obtain ⟨y, k1, k2, k3, k4⟩ := m_sees100 (s := lf_w x 403 w (lf_i (oz_iw w))) hH hw (T := T) (by
        intro i hi
        rw [oz_w_o (by omega), i2.1 394 (by omega)]
        exact h4 i hi) oz_w_s
      refine ⟨y, ⟨fun v hv => ?_, oz_fr_tr i2 (oz_fr_tr (oz_fr_w rfl) k3)⟩, ?_⟩
      · by_cases c : v = w
        · rw [c]; exact k2
        · rw [k4 v c, oz_w_n c]; exact i1 v (by omega)
      · rw [f_Mod_sees_76, pl_450, oz_ile_f (by omega) (by omega), if_neg (by decide +kernel), m_wIsWeave (by omega), Option.bind_some, oz_ck (by omega) (by omega)]
        simp only [lf_lt, pl_0, pl_1, nI_add, k1, Option.bind_some]) 450 0 5000 s (by omega) (by omega) ⟨fun w h => absurd h (by omega), oz_fr_rf⟩
theorem m_sees30_0 (hl : len ≤ 400) : f_Mod_sees_30 (nI len) 5000 (nI 0) (nI 0) s = some (lf_i false, s) := by
  rw [f_Mod_sees_30]
  by_cases c : len ≤ 0
  · rw [oz_ile_t c (by omega)]; rfl
  · rw [oz_ile_f (by omega) (by omega), if_pos (by decide +kernel)]; rfl
theorem m_sees76_0 {b : Int32} (hb : b = 0) : f_Mod_sees_76 (nI len) b 5000 (nI 0) s = some s := by
  rw [f_Mod_sees_76, pl_450, oz_ile_f (by omega) (by omega), hb, if_pos rfl]
theorem m_sees (h : oz_T s T len) : ∃ t, f_Mod_sees s = some (oz_sns T len, t) ∧ (oz_sns T len = true → ∀ w, w < 450 → t.1 403 w = lf_i (oz_fw T (len / 2) w)) ∧ t.1 389 8 = nI 0 ∧ oz_fr (fun p => p = 389 ∨ p = 403) s t ∧ ∀ j, j ≠ 8 → t.1 389 j = s.1 389 j := by
  obtain ⟨h1, h2, h3, h4⟩ := h
  have hs : ∀ i, i < len → (lf_w s 389 8 (nI 0)).1 394 i = nI (T i) := fun i hi => by rw [oz_w_o (by omega)]; exact (h4 i hi).2.2
  have ff : oz_sns T len = false → ∃ t, some (false, lf_w s 389 8 (nI 0)) = some (oz_sns T len, t) ∧ (oz_sns T len = true → ∀ w, w < 450 → t.1 403 w = lf_i (oz_fw T (len / 2) w)) ∧ t.1 389 8 = nI 0 ∧ oz_fr (fun p => p = 389 ∨ p = 403) s t ∧ ∀ j, j ≠ 8 → t.1 389 j = s.1 389 j := by
    intro e
    rw [e]
    exact ⟨_, rfl, fun z => Bool.noConfusion z, oz_w_s, oz_fr_w (by omega), fun j hj => oz_w_n hj⟩
  have i0 : lf_i false = nI 0 := by decide +kernel
  have i1 : lf_i true = nI 1 := by decide +kernel
  unfold f_Mod_sees
  simp only [lf_lt, pl_0, pl_1, pl_2, h2]
  by_cases c2 : len % 2 = 0
  · rw [if_pos (by rw [oz_mod (by omega) (by omega) (by omega), c2])]
    by_cases c4 : 40 < len
    · rw [pl_40, oz_ilt_t c4 (by omega), m_sees30_0 h3, Option.bind_some]
      try dsimp only
      rw [m_sees76_0 i0, Option.bind_some, oz_rbi, Option.bind_some]
      refine ff ?_
      unfold oz_sns
      rw [decide_eq_false (show ¬ len ≤ 40 by omega)]; rfl
    · rw [pl_40, oz_ilt_f (by omega) (by omega)]
      obtain ⟨H, rfl⟩ : ∃ H, len = 2 * H := ⟨len / 2, by omega⟩
      have hH : H ≤ 20 := by omega
      rw [m_sees30 hH (T := T) (fun i hi => ⟨(h4 i hi).1, hs i hi⟩), Option.bind_some]
      try dsimp only
      have es := oz_sns_pr (T := T) hH
      rw [← es]
      cases c : oz_sns T (2 * H) with
      | false =>
        rw [m_sees76_0 i0, Option.bind_some, oz_rbi, Option.bind_some, ← c]
        have := ff c
        rw [← c] at this
        exact this
      | true =>
        obtain ⟨H', e, _, hT⟩ := oz_sns_t c
        obtain rfl : H = H' := by omega
        obtain ⟨y, k1, k2, k3⟩ := m_sees76 (s := lf_w s 389 8 (nI 0)) hH (T := T) (fun i hi => ⟨hT i hi, hs i hi⟩)
        rw [i1, k1, Option.bind_some, ← i1, oz_rbi, Option.bind_some]
        refine ⟨y, rfl, fun _ => ?_, ?_, oz_fr_tr (oz_fr_w (by omega)) (oz_fr_mono k3 (by omega)), fun j hj => ?_⟩
        · rw [show 2 * H / 2 = H by omega]; exact k2
        · rw [k3.1 389 (by omega)]; exact oz_w_s
        · rw [k3.1 389 (by omega)]; exact oz_w_n hj
  · rw [if_neg (by rw [oz_mod (by omega) (by omega) (by omega), oz_eq (by omega) (by omega)]; exact c2), m_sees30_0 h3, Option.bind_some]
    try dsimp only
    rw [m_sees76_0 i0, Option.bind_some, oz_rbi, Option.bind_some]
    refine ff ?_
    unfold oz_sns
    by_cases c4 : len ≤ 40
    · rw [if_pos c4, decide_eq_false c2, Bool.and_false]; rfl
    · rw [decide_eq_false c4]; rfl
theorem m_seenMany {P : Nat → Bool} (h : ∀ w, w < 450 → s.1 403 w = lf_i (P w)) : f_Mod_seenMany s = some (nI (oz_nm P 450)) := by
  have key := oz_for (N := 450) (fun f i x => f_Mod_seenMany_4 f (nI x) (nI i) s) (fun i x => x + if P i = true then 1 else 0) (fun x => nI x) 0 (by
      intro f x
      rw [f_Mod_seenMany_4, pl_450, oz_ile_t (by omega) (by omega)]) (by
      intro f i x hi
      rw [f_Mod_seenMany_4, pl_450, oz_ile_f (by omega) (by omega), oz_ck hi (by omega), h i hi]
      cases P i with
      | true =>
        rw [if_neg (by decide +kernel), if_pos rfl]
        simp only [lf_lt, pl_1, nI_add]
      | false =>
        rw [if_pos (by decide +kernel), if_neg (by simp)]
        simp only [lf_lt, pl_0, pl_1, nI_add]) 5000 (by omega)
  rw [oz_it_sum] at key
  unfold f_Mod_seenMany
  simp only [lf_lt, pl_0, key, Option.bind_some]
  rfl
theorem m_found36 {P : Nat → Bool} (h : ∀ w, w < 450 → s.1 403 w = lf_i (P w)) : f_Mod_found_36 5000 (nI 0) s = some ((oz_fst P 0 450).elim (Sum.inl s) (fun w => Sum.inr (nI w, s))) := by
  exact oz_search (N := 450) (fun f i => f_Mod_found_36 f (nI i) s) P (Sum.inl s) (fun w => Sum.inr (nI w, s)) (by
      intro f
      rw [f_Mod_found_36, pl_450, oz_ile_t (by omega) (by omega)]) (by
      intro f i hi
      rw [f_Mod_found_36, pl_450, oz_ile_f (by omega) (by omega), oz_ck hi (by omega), h i hi]
      cases P i with
      | true => rw [if_neg (by decide +kernel), if_pos rfl]
      | false =>
        rw [if_pos (by decide +kernel), if_neg (by simp)]
        simp only [lf_lt, pl_1, nI_add]) 450 0 5000 (by omega) (by omega)
theorem m_found (h : oz_T s T len) (x : Int32) : ∃ t, f_Mod_found x s = some (if oz_sns T len = true then oz_fd T (len / 2) x else nI 0, t) ∧ t.1 389 0 = (if oz_sns T len = true then nI 0 else nI 1) ∧ t.1 389 8 = nI 0 ∧ oz_fr (fun p => p = 389 ∨ p = 403) s t ∧ ∀ j, j ≠ 8 → j ≠ 0 → t.1 389 j = s.1 389 j := by
  obtain ⟨t, k1, g1, g2, g3, g4⟩ := m_sees h
  unfold f_Mod_found
  rw [k1, Option.bind_some]
  try dsimp only
  cases c : oz_sns T len with
  | false =>
    rw [if_neg (by simp), if_neg (by simp), if_neg (by simp)]
    refine ⟨lf_w t 389 0 (nI 1), ?_, oz_w_s, by rw [oz_w_n (by omega)]; exact g2, oz_fr_tr g3 (oz_fr_w (by omega)), fun j h1 h2 => by rw [oz_w_n h2]; exact g4 j h1⟩
    simp only [lf_lt, pl_0, pl_1, oz_w_s]
    rw [oz_ile_f (by omega) (by omega)]
  | true =>
    have g1' := g1 c
    have gw : ∀ w, w < 450 → (lf_w t 389 0 (nI 0)).1 403 w = lf_i (oz_fw T (len / 2) w) := fun w hw => by rw [oz_w_o (by omega)]; exact g1' w hw
    rw [if_pos rfl, if_pos rfl, if_pos rfl]
    refine ⟨lf_w t 389 0 (nI 0), ?_, oz_w_s, by rw [oz_w_n (by omega)]; exact g2, oz_fr_tr g3 (oz_fr_w (by omega)), fun j h1 h2 => by rw [oz_w_n h2]; exact g4 j h1⟩
    simp only [lf_lt, pl_0, oz_w_s]
    rw [oz_ile_t (by omega) (by omega), m_seenMany gw, m_found36 gw]
    unfold oz_fd
    by_cases cx : x = 0
    · rw [if_pos cx]; exact (if_pos cx).trans rfl
    · rw [if_neg cx]
      refine (if_neg cx).trans ?_
      rw [Option.bind_some]
      cases oz_fst (oz_fw T (len / 2)) 0 450 <;> rfl
theorem m_look57 {H : Nat} (h : ∀ w, w < 450 → s.1 403 w = lf_i (oz_fw T H w)) {p : Nat} (hp : p < 1000) {c1 c2 c3 : Int32} : f_Mod_look_57 c1 c2 c3 (nI p) 5000 (nI 0) (nI 0) s = some (nI (oz_cg T H p), s) := by
  have key := oz_for (N := 450) (fun f i x => f_Mod_look_57 c1 c2 c3 (nI p) f (nI x) (nI i) s) (fun i x => x + if (oz_fw T H i && oz_wv i p) = true then 1 else 0) (fun x => (nI x, s)) 0 (by
      intro f x
      rw [f_Mod_look_57, pl_450, oz_ile_t (by omega) (by omega)]) (by
      intro f i x hi
      rw [f_Mod_look_57, pl_450, oz_ile_f (by omega) (by omega), oz_ck hi (by omega), h i hi]
      cases c : oz_fw T H i with
      | true =>
        rw [if_neg (by decide +kernel), m_wIsPassed (oz_fw_iw c) (by omega) hp, Option.bind_some]
        cases oz_wv i p with
        | true =>
          rw [if_pos rfl, show (if (true && true) = true then 1 else 0) = 1 from rfl]
          simp only [lf_lt, pl_1, nI_add]
        | false =>
          rw [if_neg (by simp), show (if (true && false) = true then 1 else 0) = 0 from rfl]
          simp only [lf_lt, pl_0, pl_1, nI_add]
      | false =>
        rw [if_pos (by decide +kernel), if_neg (by simp)]
        simp only [lf_lt, pl_0, pl_1, nI_add]) 5000 (by omega)
  rw [oz_it_sum] at key
  exact key
theorem m_look39 {H : Nat} (h : ∀ w, w < 450 → s.1 403 w = lf_i (oz_fw T H w)) : f_Mod_look_39 (nI (oz_nm (oz_fw T H) 450)) 5000 oz_N (nI 2000000000) (nI 0) s = some (oz_en (oz_lk T H), s) := by
  have l80 := oz_nm_le80 (T := T) (H := H) (n := 450) (by omega)
  have e0 : oz_en ((none : Option (Nat × Nat)).map Prod.fst) = oz_N := rfl
  unfold oz_lk
  by_cases c : 2 ≤ oz_nm (oz_fw T H) 450
  · rw [if_pos c]
    have key := (oz_forI (N := 100) (fun p (x : Option (Nat × Nat)) => ∀ f l, x = some (f, l) → f < p ∧ l ≤ 80) (fun f p x => f_Mod_look_39 (nI (oz_nm (oz_fw T H) 450)) f (oz_en (x.map Prod.fst)) (match x with
      | none => nI 2000000000
      | some (_, l) => nI l) (nI p) s) (oz_mins (oz_gp T H)) (fun x => (oz_en (x.map Prod.fst), s)) none (by intro f l h; cases h) (fun p x _ hx => oz_mins_I oz_gp_le hx) (by
      intro f x hx
      simp (disch := first | assumption | omega) only [f_Mod_look_39, lf_lt, Option.bind_some, nI_add, pk_mul, oz_sub, oz_addm1, oz_div, oz_mod, oz_ck, oz_nz, oz_le_t, oz_le_f, oz_lt_t, oz_lt_f, oz_eq_t, oz_eq_f, oz_eqm1, oz_m1eq, oz_neg1, oz_m1lt, oz_ltm1, oz_lem1, oz_m1le, oz_mx, oz_mn, if_true, if_false, ite_true, ite_false, oz_md_r, oz_md_o, oz_md_w, oz_md_wo, oz_md_2, Sum.elim_inl, Sum.elim_inr, pl_0, pl_1, pl_2, pl_3, pl_4, pl_5, pl_6, pl_7, pl_8, pl_9, pl_10, pl_11, pl_12, pl_13, pl_100]) (by
      intro f p x hp hx
      have hg := oz_gp_le (T := T) (H := H) (p := p)
      have hle := oz_cg_le (T := T) (H := H) (p := p)
      have m := fun c1 c2 c3 => m_look57 h (p := p) (by omega) (c1 := c1) (c2 := c2) (c3 := c3)
      have mg := m_greater (x := oz_cg T H p) (y := oz_nm (oz_fw T H) 450 - oz_cg T H p) (by omega) (by omega)
      have eg : max (oz_cg T H p) (oz_nm (oz_fw T H) 450 - oz_cg T H p) = oz_gp T H p := rfl
      rw [eg] at mg
      cases x with
      | none =>
        have e : oz_mins (oz_gp T H) p none = some (p, oz_gp T H p) := rfl
        rw [e]
        simp only [Option.map_none, Option.map_some, oz_en]
        simp (disch := first | assumption | omega) only [f_Mod_look_39, lf_lt, Option.bind_some, nI_add, pk_mul, oz_sub, oz_addm1, oz_div, oz_mod, oz_ck, oz_nz, oz_le_t, oz_le_f, oz_lt_t, oz_lt_f, oz_eq_t, oz_eq_f, oz_eqm1, oz_m1eq, oz_neg1, oz_m1lt, oz_ltm1, oz_lem1, oz_m1le, oz_mx, oz_mn, if_true, if_false, ite_true, ite_false, oz_md_r, oz_md_o, oz_md_w, oz_md_wo, oz_md_2, Sum.elim_inl, Sum.elim_inr, pl_0, pl_1, pl_2, pl_3, pl_4, pl_5, pl_6, pl_7, pl_8, pl_9, pl_10, pl_11, pl_12, pl_13, pl_100, pl_2000000000, m, mg]
      | some y =>
        obtain ⟨f2, l2⟩ := y
        have i2 := hx f2 l2 rfl
        have e : oz_mins (oz_gp T H) p (some (f2, l2)) = if oz_gp T H p < l2 then some (p, oz_gp T H p) else some (f2, l2) := rfl
        rw [e]
        simp only [Option.map_some, oz_en]
        by_cases c2 : oz_gp T H p < l2
        · rw [if_pos c2]
          simp (disch := first | assumption | omega) only [f_Mod_look_39, lf_lt, Option.bind_some, nI_add, pk_mul, oz_sub, oz_addm1, oz_div, oz_mod, oz_ck, oz_nz, oz_le_t, oz_le_f, oz_lt_t, oz_lt_f, oz_eq_t, oz_eq_f, oz_eqm1, oz_m1eq, oz_neg1, oz_m1lt, oz_ltm1, oz_lem1, oz_m1le, oz_mx, oz_mn, if_true, if_false, ite_true, ite_false, oz_md_r, oz_md_o, oz_md_w, oz_md_wo, oz_md_2, Sum.elim_inl, Sum.elim_inr, pl_0, pl_1, pl_2, pl_3, pl_4, pl_5, pl_6, pl_7, pl_8, pl_9, pl_10, pl_11, pl_12, pl_13, pl_100, m, mg]
          rfl
        · rw [if_neg c2]
          simp (disch := first | assumption | omega) only [f_Mod_look_39, lf_lt, Option.bind_some, nI_add, pk_mul, oz_sub, oz_addm1, oz_div, oz_mod, oz_ck, oz_nz, oz_le_t, oz_le_f, oz_lt_t, oz_lt_f, oz_eq_t, oz_eq_f, oz_eqm1, oz_m1eq, oz_neg1, oz_m1lt, oz_ltm1, oz_lem1, oz_m1le, oz_mx, oz_mn, if_true, if_false, ite_true, ite_false, oz_md_r, oz_md_o, oz_md_w, oz_md_wo, oz_md_2, Sum.elim_inl, Sum.elim_inr, pl_0, pl_1, pl_2, pl_3, pl_4, pl_5, pl_6, pl_7, pl_8, pl_9, pl_10, pl_11, pl_12, pl_13, pl_100, m, mg]
          rfl) 5000 (by omega)).1
    try dsimp only at key
    rw [e0] at key
    exact key
  · rw [if_neg c, f_Mod_look_39, pl_100, oz_ile_f (by omega) (by omega), pl_1, oz_ile_t (by omega) (by omega)]
    rfl
theorem m_look (h : oz_T s T len) : ∃ t, f_Mod_look s = some (if oz_sns T len = true then oz_en (oz_lk T (len / 2)) else nI 0, t) ∧ t.1 389 0 = (if oz_sns T len = true then nI 0 else nI 1) ∧ t.1 389 8 = nI 0 ∧ oz_fr (fun p => p = 389 ∨ p = 403) s t ∧ ∀ j, j ≠ 8 → j ≠ 0 → t.1 389 j = s.1 389 j := by
  obtain ⟨t, k1, g1, g2, g3, g4⟩ := m_sees h
  unfold f_Mod_look
  rw [k1, Option.bind_some]
  try dsimp only
  cases c : oz_sns T len with
  | false =>
    rw [if_neg (by simp), if_neg (by simp), if_neg (by simp)]
    refine ⟨lf_w t 389 0 (nI 1), ?_, oz_w_s, by rw [oz_w_n (by omega)]; exact g2, oz_fr_tr g3 (oz_fr_w (by omega)), fun j h1 h2 => by rw [oz_w_n h2]; exact g4 j h1⟩
    simp only [lf_lt, pl_0, pl_1, oz_w_s]
    rw [oz_ile_f (by omega) (by omega)]
  | true =>
    have g1' := g1 c
    have gw : ∀ w, w < 450 → (lf_w t 389 0 (nI 0)).1 403 w = lf_i (oz_fw T (len / 2) w) := fun w hw => by rw [oz_w_o (by omega)]; exact g1' w hw
    rw [if_pos rfl, if_pos rfl, if_pos rfl]
    refine ⟨lf_w t 389 0 (nI 0), ?_, oz_w_s, by rw [oz_w_n (by omega)]; exact g2, oz_fr_tr g3 (oz_fr_w (by omega)), fun j h1 h2 => by rw [oz_w_n h2]; exact g4 j h1⟩
    simp only [lf_lt, pl_0, pl_1, oz_neg1, pl_2000000000, oz_w_s]
    rw [oz_ile_t (by omega) (by omega), m_seenMany gw, Option.bind_some, m_look39 gw, Option.bind_some]
end
