/-! ===== weaves found out; where to look ===== -/
def oz_wv (w p : Nat) : Bool := decide (¬ w / 100 ≤ (p + w % 10) % (w / 100 + w / 10 % 10))
def oz_iw (w : Nat) : Bool := decide (1 ≤ w / 100 ∧ w / 100 ≤ 4 ∧ 1 ≤ w / 10 % 10 ∧ w / 10 % 10 ≤ 4 ∧ w % 10 < w / 100 + w / 10 % 10)
theorem oz_iw_t {w : Nat} : oz_iw w = true ↔ 1 ≤ w / 100 ∧ w / 100 ≤ 4 ∧ 1 ≤ w / 10 % 10 ∧ w / 10 % 10 ≤ 4 ∧ w % 10 < w / 100 + w / 10 % 10 := by unfold oz_iw; exact decide_eq_true_iff
theorem c_wIsOver {w p : Nat} (hw : oz_iw w = true) (h5 : w < 510) (hp : p < 1000) : f_Ways_isOver (nI w) (nI p) = some (oz_wv w p) := by
  rw [oz_iw_t] at hw
  obtain ⟨a1, a2, a3, a4, a5⟩ := hw
  unfold f_Ways_isOver oz_wv
  have hm : (p + w % 10) % (w / 100 + w / 10 % 10) < 8 := by
    have := Nat.mod_lt (p + w % 10) (show 0 < w / 100 + w / 10 % 10 by omega)
    omega
  simp (disch := first | assumption | omega) only [lf_lt, Option.bind_some, nI_add, pk_mul, oz_sub, oz_addm1, oz_div, oz_mod, oz_ck, oz_nz, oz_le_t, oz_le_f, oz_lt_t, oz_lt_f, oz_eq_t, oz_eq_f, oz_eqm1, oz_m1eq, oz_neg1, oz_m1lt, oz_ltm1, oz_lem1, oz_m1le, oz_mx, oz_mn, if_true, if_false, ite_true, ite_false, oz_md_r, oz_md_o, oz_md_w, oz_md_wo, oz_md_2, Sum.elim_inl, Sum.elim_inr, pl_0, pl_1, pl_2, pl_3, pl_4, pl_5, pl_6, pl_7, pl_8, pl_9, pl_10, pl_11, pl_12, pl_13, pl_100]
  by_cases c : w / 100 ≤ (p + w % 10) % (w / 100 + w / 10 % 10)
  · rw [oz_ile_t c (by omega), decide_eq_false (by omega)]
  · rw [oz_ile_f (by omega) (by omega), decide_eq_true c]
theorem m_wIsPassed {w p : Nat} (hw : oz_iw w = true) (h5 : w < 510) (hp : p < 1000) : f_Mod_isPassed (nI w) (nI p) = some (oz_wv w p) := by
  rw [oz_iw_t] at hw
  obtain ⟨a1, a2, a3, a4, a5⟩ := hw
  unfold f_Mod_isPassed oz_wv
  have hm : (p + w % 10) % (w / 100 + w / 10 % 10) < 8 := by
    have := Nat.mod_lt (p + w % 10) (show 0 < w / 100 + w / 10 % 10 by omega)
    omega
  simp (disch := first | assumption | omega) only [lf_lt, Option.bind_some, nI_add, pk_mul, oz_sub, oz_addm1, oz_div, oz_mod, oz_ck, oz_nz, oz_le_t, oz_le_f, oz_lt_t, oz_lt_f, oz_eq_t, oz_eq_f, oz_eqm1, oz_m1eq, oz_neg1, oz_m1lt, oz_ltm1, oz_lem1, oz_m1le, oz_mx, oz_mn, if_true, if_false, ite_true, ite_false, oz_md_r, oz_md_o, oz_md_w, oz_md_wo, oz_md_2, Sum.elim_inl, Sum.elim_inr, pl_0, pl_1, pl_2, pl_3, pl_4, pl_5, pl_6, pl_7, pl_8, pl_9, pl_10, pl_11, pl_12, pl_13, pl_100]
  by_cases c : w / 100 ≤ (p + w % 10) % (w / 100 + w / 10 % 10)
  · rw [oz_ile_t c (by omega), decide_eq_false (by omega)]
  · rw [oz_ile_f (by omega) (by omega), decide_eq_true c]
theorem m_wIsWeave {w : Nat} (h5 : w < 510) : f_Mod_isWeave (nI w) = some (oz_iw w) := by
  unfold f_Mod_isWeave
  simp (disch := first | assumption | omega) only [lf_lt, Option.bind_some, nI_add, pk_mul, oz_sub, oz_addm1, oz_div, oz_mod, oz_ck, oz_nz, oz_le_t, oz_le_f, oz_lt_t, oz_lt_f, oz_eq_t, oz_eq_f, oz_eqm1, oz_m1eq, oz_neg1, oz_m1lt, oz_ltm1, oz_lem1, oz_m1le, oz_mx, oz_mn, if_true, if_false, ite_true, ite_false, oz_md_r, oz_md_o, oz_md_w, oz_md_wo, oz_md_2, Sum.elim_inl, Sum.elim_inr, pl_0, pl_1, pl_2, pl_3, pl_4, pl_5, pl_6, pl_7, pl_8, pl_9, pl_10, pl_11, pl_12, pl_13, pl_100]
  have d4 : w / 10 % 10 < 10 := by omega
  have d5 : w % 10 < 10 := by omega
  by_cases c1 : 1 ≤ w / 100 ∧ w / 100 ≤ 4
  · rw [m_isIn_t c1.1 c1.2 (by omega)]
    simp only [Option.bind_some, if_true]
    by_cases c2 : 1 ≤ w / 10 % 10 ∧ w / 10 % 10 ≤ 4
    · rw [m_isIn_t c2.1 c2.2 (by omega)]
      simp only [Option.bind_some, if_true]
      by_cases c3 : w / 100 + w / 10 % 10 ≤ w % 10
      · rw [oz_ile_t c3 (by omega), show oz_iw w = false from decide_eq_false (by omega)]
      · rw [oz_ile_f (by omega) (by omega), show oz_iw w = true from decide_eq_true (by omega)]
    · rw [m_isIn_f (by omega) (by omega) (by omega) (by omega), show oz_iw w = false from decide_eq_false (by omega)]
      simp
  · rw [m_isIn_f (by omega) (by omega) (by omega) (by omega), show oz_iw w = false from decide_eq_false (by omega)]
    simp
/-- what was seen agrees with the weave -/
def oz_sw (T : Nat → Nat) (w j : Nat) : Bool := oz_wv w (T (2 * j)) == decide (T (2 * j + 1) = 1)
def oz_fw (T : Nat → Nat) (H w : Nat) : Bool := oz_iw w && oz_ok (oz_sw T w) H
/-- how many below n -/
def oz_nm (P : Nat → Bool) (n : Nat) : Nat := oz_sum (fun w => if P w = true then 1 else 0) n
theorem oz_nm_le {P Q : Nat → Bool} (h : ∀ w, P w = true → Q w = true) : ∀ n, oz_nm P n ≤ oz_nm Q n := by
  intro n
  induction n with
  | zero => exact Nat.le_refl _
  | succ n ih =>
    show oz_nm P n + (if P n = true then 1 else 0) ≤ oz_nm Q n + (if Q n = true then 1 else 0)
    by_cases c : P n = true
    · rw [if_pos c, if_pos (h n c)]; omega
    · rw [if_neg c]; split <;> omega
theorem oz_nm_t {P : Nat → Bool} {n : Nat} (h : P n = true) : oz_nm P (n + 1) = oz_nm P n + 1 := by
  show oz_nm P n + (if P n = true then 1 else 0) = _
  rw [if_pos h]
theorem oz_nm_f {P : Nat → Bool} {n : Nat} (h : P n = false) : oz_nm P (n + 1) = oz_nm P n := by
  show oz_nm P n + (if P n = true then 1 else 0) = _
  rw [if_neg (by rw [h]; exact Bool.noConfusion)]; rfl
theorem oz_nm_mono {P : Nat → Bool} {m : Nat} : ∀ k, oz_nm P m ≤ oz_nm P (m + k) := by
  intro k
  induction k with
  | zero => exact Nat.le_refl _
  | succ k ih => exact Nat.le_trans ih (Nat.le_add_right _ _)
theorem oz_nm_gap {P : Nat → Bool} {m : Nat} : ∀ k, (∀ w, m ≤ w → w < m + k → P w = false) → oz_nm P (m + k) = oz_nm P m := by
  intro k
  induction k with
  | zero => intro _; rfl
  | succ k ih =>
    intro h
    rw [show m + (k + 1) = m + k + 1 from rfl, oz_nm_f (h (m + k) (by omega) (by omega))]
    exact ih (fun w h1 h2 => h w h1 (by omega))
theorem oz_nm_iw : oz_nm oz_iw 510 = 80 := by decide +kernel
theorem oz_iw_gap0 {w : Nat} (h : w < 110) : oz_iw w = false := by
  unfold oz_iw
  exact decide_eq_false (by omega)
theorem oz_iw_gap1 {u w : Nat} (hu : u ≤ 4) (h1 : 100 * u + 50 ≤ w) (h2 : w < 100 * (u + 1) + 10) : oz_iw w = false := by
  unfold oz_iw
  exact decide_eq_false (by omega)
theorem oz_iw_gap2 {u l w : Nat} (hu : u ≤ 4) (hl : l ≤ 4) (h1 : 100 * u + 10 * l + (u + l) ≤ w) (h2 : w < 100 * u + 10 * (l + 1)) : oz_iw w = false := by
  have e1 : w / 10 = 10 * u + l := by omega
  have e2 : w / 100 = u := by omega
  have e3 : w / 10 % 10 = l := by rw [e1]; omega
  unfold oz_iw
  rw [e2, e3]
  exact decide_eq_false (by omega)
theorem oz_iw_in {u l o : Nat} (hu1 : 1 ≤ u) (hu : u ≤ 4) (hl1 : 1 ≤ l) (hl : l ≤ 4) (ho : o < u + l) : oz_iw (100 * u + 10 * l + o) = true := by
  rw [oz_iw_t]
  have e1 : (100 * u + 10 * l + o) / 10 = 10 * u + l := by omega
  have e2 : (100 * u + 10 * l + o) / 100 = u := by omega
  have e3 : (100 * u + 10 * l + o) / 10 % 10 = l := by rw [e1]; omega
  rw [e2, e3]
  omega
theorem oz_fw_iw {T : Nat → Nat} {H w : Nat} (h : oz_fw T H w = true) : oz_iw w = true := by
  unfold oz_fw at h
  rw [Bool.and_eq_true] at h
  exact h.1
theorem oz_fw_f {T : Nat → Nat} {H w : Nat} (h : oz_iw w = false) : oz_fw T H w = false := by
  unfold oz_fw
  rw [h, Bool.false_and]
/-- sums over the list of those that hold -/
theorem oz_nm_sum {P : Nat → Bool} {g v : Nat → Nat} : ∀ n, (∀ w, w < n → P w = true → g (oz_nm P w) = v w) → oz_sum g (oz_nm P n) = oz_sum (fun w => if P w = true then v w else 0) n := by
  intro n
  induction n with
  | zero => intro _; rfl
  | succ n ih =>
    intro h
    show _ = oz_sum (fun w => if P w = true then v w else 0) n + (if P n = true then v n else 0)
    rw [← ih (fun w hw => h w (by omega))]
    by_cases c : P n = true
    · rw [oz_nm_t c, if_pos c, ← h n (by omega) c]; rfl
    · rw [oz_nm_f (by simpa using c), if_neg c]; rfl
section
variable {s : lf_S} {T : Nat → Nat} {H : Nat}
/-- what takeSeen left -/
def oz_SE (s : lf_S) (T : Nat → Nat) (H : Nat) : Prop := H ≤ 20 ∧ s.1 3 0 = nI (2 * H) ∧ ∀ i, i < 2 * H → T i < 100 ∧ s.1 4 i = nI (T i)
def oz_KL (t : lf_S) (T : Nat → Nat) (H n : Nat) : Prop := t.1 3 6 = nI (oz_nm (oz_fw T H) n) ∧ ∀ w, w < n → oz_fw T H w = true → t.1 8 (oz_nm (oz_fw T H) w) = nI w
theorem oz_KL_gap {t : lf_S} {n m : Nat} (h : oz_KL t T H n) (hm : n ≤ m) (g : ∀ w, n ≤ w → w < m → oz_iw w = false) : oz_KL t T H m := by
  obtain ⟨k, rfl⟩ : ∃ k, m = n + k := ⟨m - n, by omega⟩
  refine ⟨?_, fun w hw hf => ?_⟩
  · rw [oz_nm_gap k (fun w h1 h2 => oz_fw_f (g w h1 h2))]; exact h.1
  · by_cases c : w < n
    · exact h.2 w c hf
    · rw [oz_fw_f (g w (by omega) hw)] at hf; exact Bool.noConfusion hf
theorem oz_SE_fr {t : lf_S} (h : oz_SE s T H) (f : oz_fr (fun p => p = 3 ∨ p = 8) s t) (e : t.1 3 0 = s.1 3 0) : oz_SE t T H := ⟨h.1, by rw [e]; exact h.2.1, fun i hi => by rw [f.1 4 (by omega)]; exact h.2.2 i hi⟩
theorem c_keepLoop (h : oz_SE s T H) {w : Nat} (hw : oz_iw w = true) (h5 : w < 510) : f_Ways_keepIfSeen_4 (nI w) 5000 (nI 1) (nI 0) s = some (lf_i (oz_ok (oz_sw T w) H), s) := by
  obtain ⟨h1, h2, h3⟩ := h
  have key := (oz_forI (N := H) (fun _ (_ : Bool) => True) (fun f i (x : Bool) => f_Ways_keepIfSeen_4 (nI w) f (lf_i x) (nI (2 * i)) s) (fun i x => x && oz_sw T w i) (fun x => (lf_i x, s)) true trivial (fun _ _ _ _ => trivial) (by
      intro f x _
      simp (disch := first | assumption | omega) only [f_Ways_keepIfSeen_4, h2, lf_lt, Option.bind_some, nI_add, pk_mul, oz_sub, oz_addm1, oz_div, oz_mod, oz_ck, oz_nz, oz_le_t, oz_le_f, oz_lt_t, oz_lt_f, oz_eq_t, oz_eq_f, oz_eqm1, oz_m1eq, oz_neg1, oz_m1lt, oz_ltm1, oz_lem1, oz_m1le, oz_mx, oz_mn, if_true, if_false, ite_true, ite_false, oz_md_r, oz_md_o, oz_md_w, oz_md_wo, oz_md_2, Sum.elim_inl, Sum.elim_inr, pl_0, pl_1, pl_2, pl_3, pl_4, pl_5, pl_6, pl_7, pl_8, pl_9, pl_10, pl_11, pl_12, pl_13]) (by
      intro f i x hi _
      have e1 := (h3 (2 * i) (by omega))
      have e2 := (h3 (2 * i + 1) (by omega))
      have eo := c_wIsOver hw h5 (p := T (2 * i)) (by omega)
      have e22 : 2 * (i + 1) = 2 * i + 2 := by omega
      rw [e22, f_Ways_keepIfSeen_4, h2, pl_1, nI_add, oz_ile_f (by omega) (by omega)]
      cases x with
      | false =>
        rw [if_pos (by decide +kernel)]
        simp (disch := first | assumption | omega) only [lf_lt, Option.bind_some, nI_add, pk_mul, oz_sub, oz_addm1, oz_div, oz_mod, oz_ck, oz_nz, oz_le_t, oz_le_f, oz_lt_t, oz_lt_f, oz_eq_t, oz_eq_f, oz_eqm1, oz_m1eq, oz_neg1, oz_m1lt, oz_ltm1, oz_lem1, oz_m1le, oz_mx, oz_mn, if_true, if_false, ite_true, ite_false, oz_md_r, oz_md_o, oz_md_w, oz_md_wo, oz_md_2, Sum.elim_inl, Sum.elim_inr, pl_0, pl_1, pl_2, pl_3, pl_4, pl_5, pl_6, pl_7, pl_8, pl_9, pl_10, pl_11, pl_12, pl_13]
        rfl
      | true =>
        rw [if_neg (by decide +kernel)]
        simp (disch := first | assumption | omega) only [lf_lt, Option.bind_some, nI_add, pk_mul, oz_sub, oz_addm1, oz_div, oz_mod, oz_ck, oz_nz, oz_le_t, oz_le_f, oz_lt_t, oz_lt_f, oz_eq_t, oz_eq_f, oz_eqm1, oz_m1eq, oz_neg1, oz_m1lt, oz_ltm1, oz_lem1, oz_m1le, oz_mx, oz_mn, if_true, if_false, ite_true, ite_false, oz_md_r, oz_md_o, oz_md_w, oz_md_wo, oz_md_2, Sum.elim_inl, Sum.elim_inr, pl_0, pl_1, pl_2, pl_3, pl_4, pl_5, pl_6, pl_7, pl_8, pl_9, pl_10, pl_11, pl_12, pl_13, e1.2, e2.2, eo]
        unfold oz_sw
        by_cases c : T (2 * i + 1) = 1
        · rw [if_pos (by rw [c]), decide_eq_true c]
          cases oz_wv w (T (2 * i)) with
          | true => exact if_pos rfl
          | false => exact if_neg (by decide +kernel)
        · rw [if_neg (by rw [oz_eq (by omega) (by omega)]; exact c), decide_eq_false c]
          cases oz_wv w (T (2 * i)) with
          | true => exact if_neg (by decide +kernel)
          | false => exact if_pos rfl) 5000 (by omega)).1
  have e : ∀ n, oz_it (fun i x => x && oz_sw T w i) n true = oz_ok (oz_sw T w) n := by
    intro n
    induction n with
    | zero => rfl
    | succ n ih => show (oz_it _ n true && oz_sw T w n) = (oz_ok (oz_sw T w) n && oz_sw T w n); rw [ih]
  rw [e] at key
  exact key
theorem c_keepIfSeen (h : oz_SE s T H) {w : Nat} (hw : oz_iw w = true) (h5 : w < 510) (K : oz_KL s T H w) : ∃ t, f_Ways_keepIfSeen (nI w) s = some t ∧ oz_KL t T H (w + 1) ∧ oz_fr (fun p => p = 3 ∨ p = 8) s t ∧ t.1 3 0 = s.1 3 0 := by
  have key := c_keepLoop h hw h5
  unfold f_Ways_keepIfSeen
  simp only [lf_lt, pl_0, pl_1, key, Option.bind_some]
  cases c : oz_ok (oz_sw T w) H with
  | false =>
    have ff : oz_fw T H w = false := by unfold oz_fw; rw [c, Bool.and_false]
    rw [if_pos (show lf_i false = nI 0 by decide +kernel)]
    refine ⟨s, rfl, ⟨?_, fun v hv hf => ?_⟩, oz_fr_rf, rfl⟩
    · rw [oz_nm_f ff]; exact K.1
    · by_cases cv : v = w
      · rw [cv, ff] at hf; exact Bool.noConfusion hf
      · exact K.2 v (by omega) hf
  | true =>
    have ff : oz_fw T H w = true := by unfold oz_fw; rw [c, hw]; rfl
    have lt : oz_nm (oz_fw T H) w < 80 := by
      have h1 : oz_nm (oz_fw T H) (w + 1) ≤ oz_nm (oz_fw T H) (w + 1 + (510 - (w + 1))) := oz_nm_mono _
      have h2 := oz_nm_le (P := oz_fw T H) (Q := oz_iw) (fun w h => oz_fw_iw h) 510
      rw [oz_nm_iw] at h2
      rw [show w + 1 + (510 - (w + 1)) = 510 by omega, oz_nm_t ff] at h1
      omega
    rw [if_neg (show ¬ lf_i true = nI 0 by decide +kernel), K.1, pl_80, oz_ile_f lt (by omega), oz_ck lt (by omega), oz_w_o (by omega), K.1, nI_add]
    have fr : oz_fr (fun p => p = 3 ∨ p = 8) s (lf_w (lf_w s 8 (oz_nm (oz_fw T H) w) (nI w)) 3 6 (nI (oz_nm (oz_fw T H) w + 1))) := oz_fr_tr (oz_fr_w (by omega)) (oz_fr_w (by omega))
    refine ⟨_, rfl, ⟨?_, fun v hv hf => ?_⟩, fr, ?_⟩
    · rw [oz_nm_t ff]; exact oz_w_s
    · rw [oz_w_o (by omega)]
      by_cases cv : v = w
      · rw [cv]; exact oz_w_s
      · have l2 : oz_nm (oz_fw T H) v < oz_nm (oz_fw T H) w := by
          have h1 : oz_nm (oz_fw T H) (v + 1) ≤ oz_nm (oz_fw T H) (v + 1 + (w - (v + 1))) := oz_nm_mono _
          rw [show v + 1 + (w - (v + 1)) = w by omega, oz_nm_t hf] at h1
          omega
        rw [oz_w_n (by omega)]
        exact K.2 v (by omega) hf
    · rw [oz_w_n (by omega), oz_w_o (by omega)]
theorem c_findO {u l : Nat} (hu1 : 1 ≤ u) (hu : u ≤ 4) (hl1 : 1 ≤ l) (hl : l ≤ 4) (h : oz_SE s T H) (K : oz_KL s T H (100 * u + 10 * l)) : ∃ t, f_Ways_findWeaves_21 (nI u) (nI l) 5000 (nI 0) s = some t ∧ (oz_KL t T H (100 * u + 10 * l + (u + l)) ∧ oz_fr (fun p => p = 3 ∨ p = 8) s t ∧ t.1 3 0 = s.1 3 0) := by
  exact oz_forE (N := u + l) (fun o (t : lf_S) => oz_KL t T H (100 * u + 10 * l + o) ∧ oz_fr (fun p => p = 3 ∨ p = 8) s t ∧ t.1 3 0 = s.1 3 0) (fun f o t => f_Ways_findWeaves_21 (nI u) (nI l) f (nI o) t) (fun t => t) (by
      intro f x hx
      simp (disch := first | assumption | omega) only [f_Ways_findWeaves_21, lf_lt, Option.bind_some, nI_add, pk_mul, oz_sub, oz_addm1, oz_div, oz_mod, oz_ck, oz_nz, oz_le_t, oz_le_f, oz_lt_t, oz_lt_f, oz_eq_t, oz_eq_f, oz_eqm1, oz_m1eq, oz_neg1, oz_m1lt, oz_ltm1, oz_lem1, oz_m1le, oz_mx, oz_mn, if_true, if_false, ite_true, ite_false, oz_md_r, oz_md_o, oz_md_w, oz_md_wo, oz_md_2, Sum.elim_inl, Sum.elim_inr, pl_0, pl_1, pl_2, pl_3, pl_4, pl_5, pl_6, pl_7, pl_8, pl_9, pl_10, pl_11, pl_12, pl_13]) (by
      intro f o x ho hx
      obtain ⟨i1, i2, i3⟩ := hx
      obtain ⟨y, k1, k2, k3, k4⟩ := c_keepIfSeen (oz_SE_fr h i2 i3) (oz_iw_in hu1 hu hl1 hl ho) (by omega) i1
      refine ⟨y, ⟨k2, oz_fr_tr i2 k3, k4.trans i3⟩, ?_⟩
      simp (disch := first | assumption | omega) only [f_Ways_findWeaves_21, lf_lt, Option.bind_some, nI_add, pk_mul, oz_sub, oz_addm1, oz_div, oz_mod, oz_ck, oz_nz, oz_le_t, oz_le_f, oz_lt_t, oz_lt_f, oz_eq_t, oz_eq_f, oz_eqm1, oz_m1eq, oz_neg1, oz_m1lt, oz_ltm1, oz_lem1, oz_m1le, oz_mx, oz_mn, if_true, if_false, ite_true, ite_false, oz_md_r, oz_md_o, oz_md_w, oz_md_wo, oz_md_2, Sum.elim_inl, Sum.elim_inr, pl_0, pl_1, pl_2, pl_3, pl_4, pl_5, pl_6, pl_7, pl_8, pl_9, pl_10, pl_11, pl_12, pl_13, pl_100, k1]) (u + l) 0 5000 s (by omega) (by omega) ⟨K, oz_fr_rf, rfl⟩
theorem c_findL {u : Nat} (hu1 : 1 ≤ u) (hu : u ≤ 4) (h : oz_SE s T H) (K : oz_KL s T H (100 * u + 10)) : ∃ t, f_Ways_findWeaves_14 (nI u) 5000 (nI 1) s = some t ∧ (oz_KL t T H (100 * u + 10 * 5) ∧ oz_fr (fun p => p = 3 ∨ p = 8) s t ∧ t.1 3 0 = s.1 3 0) := by
  obtain ⟨t, k1, k2⟩ := oz_forE (N := 5) (fun l (t : lf_S) => 1 ≤ l ∧ oz_KL t T H (100 * u + 10 * l) ∧ oz_fr (fun p => p = 3 ∨ p = 8) s t ∧ t.1 3 0 = s.1 3 0) (fun f l t => f_Ways_findWeaves_14 (nI u) f (nI l) t) (fun t => t) (by
      intro f x hx
      simp (disch := first | assumption | omega) only [f_Ways_findWeaves_14, lf_lt, Option.bind_some, nI_add, pk_mul, oz_sub, oz_addm1, oz_div, oz_mod, oz_ck, oz_nz, oz_le_t, oz_le_f, oz_lt_t, oz_lt_f, oz_eq_t, oz_eq_f, oz_eqm1, oz_m1eq, oz_neg1, oz_m1lt, oz_ltm1, oz_lem1, oz_m1le, oz_mx, oz_mn, if_true, if_false, ite_true, ite_false, oz_md_r, oz_md_o, oz_md_w, oz_md_wo, oz_md_2, Sum.elim_inl, Sum.elim_inr, pl_0, pl_1, pl_2, pl_3, pl_4, pl_5, pl_6, pl_7, pl_8, pl_9, pl_10, pl_11, pl_12, pl_13]) (by
      intro f l x hl hx
      obtain ⟨i0, i1, i2, i3⟩ := hx
      obtain ⟨y, k1, k2, k3, k4⟩ := c_findO hu1 hu i0 (by omega) (oz_SE_fr h i2 i3) i1
      refine ⟨y, ⟨by omega, oz_KL_gap k2 (by omega) (fun w h1 h2 => oz_iw_gap2 hu (by omega) h1 h2), oz_fr_tr i2 k3, k4.trans i3⟩, ?_⟩
      simp (disch := first | assumption | omega) only [f_Ways_findWeaves_14, lf_lt, Option.bind_some, nI_add, pk_mul, oz_sub, oz_addm1, oz_div, oz_mod, oz_ck, oz_nz, oz_le_t, oz_le_f, oz_lt_t, oz_lt_f, oz_eq_t, oz_eq_f, oz_eqm1, oz_m1eq, oz_neg1, oz_m1lt, oz_ltm1, oz_lem1, oz_m1le, oz_mx, oz_mn, if_true, if_false, ite_true, ite_false, oz_md_r, oz_md_o, oz_md_w, oz_md_wo, oz_md_2, Sum.elim_inl, Sum.elim_inr, pl_0, pl_1, pl_2, pl_3, pl_4, pl_5, pl_6, pl_7, pl_8, pl_9, pl_10, pl_11, pl_12, pl_13, k1]) 4 1 5000 s (by omega) (by omega) ⟨by omega, K, oz_fr_rf, rfl⟩
  exact ⟨t, k1, k2.2⟩
theorem c_findWeaves (h : oz_SE s T H) : ∃ t, f_Ways_findWeaves s = some t ∧ oz_KL t T H 510 ∧ oz_fr (fun p => p = 3 ∨ p = 8) s t ∧ t.1 3 0 = s.1 3 0 := by
  have h' : oz_SE (lf_w s 3 6 (nI 0)) T H := oz_SE_fr h (oz_fr_w (by omega)) (oz_w_n (by omega))
  have K0 : oz_KL (lf_w s 3 6 (nI 0)) T H 0 := ⟨oz_w_s, fun w hw => absurd hw (by omega)⟩
  obtain ⟨t, k1, k2⟩ := oz_forE (N := 5) (fun u (t : lf_S) => 1 ≤ u ∧ oz_KL t T H (100 * u + 10) ∧ oz_fr (fun p => p = 3 ∨ p = 8) s t ∧ t.1 3 0 = s.1 3 0) (fun f u t => f_Ways_findWeaves_7 f (nI u) t) (fun t => t) (by
      intro f x hx
      simp (disch := first | assumption | omega) only [f_Ways_findWeaves_7, lf_lt, Option.bind_some, nI_add, pk_mul, oz_sub, oz_addm1, oz_div, oz_mod, oz_ck, oz_nz, oz_le_t, oz_le_f, oz_lt_t, oz_lt_f, oz_eq_t, oz_eq_f, oz_eqm1, oz_m1eq, oz_neg1, oz_m1lt, oz_ltm1, oz_lem1, oz_m1le, oz_mx, oz_mn, if_true, if_false, ite_true, ite_false, oz_md_r, oz_md_o, oz_md_w, oz_md_wo, oz_md_2, Sum.elim_inl, Sum.elim_inr, pl_0, pl_1, pl_2, pl_3, pl_4, pl_5, pl_6, pl_7, pl_8, pl_9, pl_10, pl_11, pl_12, pl_13]) (by
      intro f u x hl hx
      obtain ⟨i0, i1, i2, i3⟩ := hx
      obtain ⟨y, k1, k2, k3, k4⟩ := c_findL i0 (by omega) (oz_SE_fr h i2 i3) i1
      refine ⟨y, ⟨by omega, oz_KL_gap k2 (by omega) (fun w h1 h2 => oz_iw_gap1 (u := u) (by omega) h1 h2), oz_fr_tr i2 k3, k4.trans i3⟩, ?_⟩
      simp (disch := first | assumption | omega) only [f_Ways_findWeaves_7, lf_lt, Option.bind_some, nI_add, pk_mul, oz_sub, oz_addm1, oz_div, oz_mod, oz_ck, oz_nz, oz_le_t, oz_le_f, oz_lt_t, oz_lt_f, oz_eq_t, oz_eq_f, oz_eqm1, oz_m1eq, oz_neg1, oz_m1lt, oz_ltm1, oz_lem1, oz_m1le, oz_mx, oz_mn, if_true, if_false, ite_true, ite_false, oz_md_r, oz_md_o, oz_md_w, oz_md_wo, oz_md_2, Sum.elim_inl, Sum.elim_inr, pl_0, pl_1, pl_2, pl_3, pl_4, pl_5, pl_6, pl_7, pl_8, pl_9, pl_10, pl_11, pl_12, pl_13, k1]) 4 1 5000 (lf_w s 3 6 (nI 0)) (by omega) (by omega) ⟨by omega, oz_KL_gap K0 (by omega) (fun w h1 h2 => oz_iw_gap0 h2), oz_fr_w (by omega), oz_w_n (by omega)⟩
  refine ⟨t, ?_, k2.2.1, k2.2.2.1, k2.2.2.2⟩
  unfold f_Ways_findWeaves
  simp only [lf_lt, pl_0, pl_1, k1, Option.bind_some]
end
/-- a loop that may end at once, the state being what it would end with -/
theorem oz_forB {σ ρ : Type} {N : Nat} (I : Nat → σ → Prop) (L : Nat → Nat → σ → Option ρ) (r : σ → ρ)
    (h0 : ∀ n x, I N x → L (n + 1) N x = some (r x)) (h1 : ∀ n i x, i < N → I i x → (∃ y, I (i + 1) y ∧ L (n + 1) i x = L n (i + 1) y) ∨ (L (n + 1) i x = some (r x) ∧ I N x)) :
    ∀ k i fuel x, i + k = N → k < fuel → I i x → ∃ y, L fuel i x = some (r y) ∧ I N y := by
  intro k
  induction k with
  | zero =>
    intro i fuel x e hf hi
    obtain rfl : i = N := by omega
    obtain ⟨m, rfl⟩ : ∃ m, fuel = m + 1 := ⟨fuel - 1, by omega⟩
    exact ⟨x, h0 m x hi, hi⟩
  | succ k ih =>
    intro i fuel x e hf hi
    obtain ⟨m, rfl⟩ : ∃ m, fuel = m + 1 := ⟨fuel - 1, by omega⟩
    rcases h1 m i x (by omega) hi with ⟨y, hy, e1⟩ | ⟨e1, hN⟩
    · rw [e1]; exact ih (i + 1) m y (by omega) (by omega) hy
    · exact ⟨x, e1, hN⟩
theorem oz_nm_at {P : Nat → Bool} : ∀ n i, i < oz_nm P n → ∃ w, w < n ∧ P w = true ∧ oz_nm P w = i := by
  intro n
  induction n with
  | zero => intro i h; exact absurd h (Nat.not_lt_zero _)
  | succ n ih =>
    intro i h
    by_cases c : P n = true
    · rw [oz_nm_t c] at h
      by_cases c2 : i = oz_nm P n
      · exact ⟨n, by omega, c, c2.symm⟩
      · obtain ⟨w, h1, h2, h3⟩ := ih i (by omega); exact ⟨w, by omega, h2, h3⟩
    · rw [oz_nm_f (by simpa using c)] at h
      obtain ⟨w, h1, h2, h3⟩ := ih i h; exact ⟨w, by omega, h2, h3⟩
theorem oz_nm_450 {T : Nat → Nat} {H : Nat} : oz_nm (oz_fw T H) 510 = oz_nm (oz_fw T H) 450 := oz_nm_gap 60 (fun w h1 h2 => oz_fw_f (oz_iw_gap1 (u := 4) (by omega) h1 h2))
theorem oz_nm_le80 {T : Nat → Nat} {H : Nat} {n : Nat} (hn : n ≤ 510) : oz_nm (oz_fw T H) n ≤ 80 := by
  have h1 : oz_nm (oz_fw T H) n ≤ oz_nm (oz_fw T H) (n + (510 - n)) := oz_nm_mono _
  have h2 := oz_nm_le (P := oz_fw T H) (Q := oz_iw) (fun w h => oz_fw_iw h) 510
  rw [oz_nm_iw] at h2
  rw [show n + (510 - n) = 510 by omega] at h1
  omega
/-- how many of them pass over at p -/
def oz_cg (T : Nat → Nat) (H p : Nat) : Nat := oz_nm (fun w => oz_fw T H w && oz_wv w p) 450
theorem oz_cg_le {T : Nat → Nat} {H p : Nat} : oz_cg T H p ≤ oz_nm (oz_fw T H) 450 := oz_nm_le (fun w h => by rw [Bool.and_eq_true] at h; exact h.1) 450
def oz_gp (T : Nat → Nat) (H p : Nat) : Nat := max (oz_cg T H p) (oz_nm (oz_fw T H) 450 - oz_cg T H p)
def oz_mins (g : Nat → Nat) (p : Nat) (x : Option (Nat × Nat)) : Option (Nat × Nat) := match x with
  | none => some (p, g p)
  | some (f, l) => if g p < l then some (p, g p) else some (f, l)
def oz_lk (T : Nat → Nat) (H : Nat) : Option Nat := if 2 ≤ oz_nm (oz_fw T H) 450 then (oz_it (oz_mins (oz_gp T H)) 100 none).map Prod.fst else none
theorem oz_mins_I {g : Nat → Nat} {p B : Nat} {x : Option (Nat × Nat)} (hg : g p ≤ B) (hx : ∀ f l, x = some (f, l) → f < p ∧ l ≤ B) : ∀ f l, oz_mins g p x = some (f, l) → f < p + 1 ∧ l ≤ B := by
  intro f l h
  cases x with
  | none =>
    have h' : some (p, g p) = some (f, l) := h
    cases h'
    omega
  | some y =>
    obtain ⟨f2, l2⟩ := y
    have h' : (if g p < l2 then some (p, g p) else some (f2, l2)) = some (f, l) := h
    have hx' := hx f2 l2 rfl
    split at h'
    · cases h'; omega
    · cases h'; omega
section
variable {s : lf_S} {T : Nat → Nat} {H : Nat}
theorem c_greaterPart (K : oz_KL s T H 510) {p : Nat} (hp : p < 1000) : f_Ways_greaterPart (nI p) s = some (nI (oz_gp T H p)) := by
  obtain ⟨K1, K2⟩ := K
  have l80 := oz_nm_le80 (T := T) (H := H) (n := 510) (by omega)
  have key := oz_for (N := oz_nm (oz_fw T H) 510) (fun f i x => f_Ways_greaterPart_4 (nI p) f (nI x) (nI i) s) (fun i x => x + if oz_wv (s.1 8 i).toBitVec.toNat p = true then 1 else 0) (fun x => nI x) 0 (by
      intro f x
      simp (disch := first | assumption | omega) only [f_Ways_greaterPart_4, K1, lf_lt, Option.bind_some, nI_add, pk_mul, oz_sub, oz_addm1, oz_div, oz_mod, oz_ck, oz_nz, oz_le_t, oz_le_f, oz_lt_t, oz_lt_f, oz_eq_t, oz_eq_f, oz_eqm1, oz_m1eq, oz_neg1, oz_m1lt, oz_ltm1, oz_lem1, oz_m1le, oz_mx, oz_mn, if_true, if_false, ite_true, ite_false, oz_md_r, oz_md_o, oz_md_w, oz_md_wo, oz_md_2, Sum.elim_inl, Sum.elim_inr, pl_0, pl_1, pl_2, pl_3, pl_4, pl_5, pl_6, pl_7, pl_8, pl_9, pl_10, pl_11, pl_12, pl_13]) (by
      intro f i x hi
      obtain ⟨w, w1, w2, w3⟩ := oz_nm_at 510 i hi
      have e := K2 w w1 w2
      rw [w3] at e
      have e2 : (s.1 8 i).toBitVec.toNat = w := (oz_inj (by omega) (BitVec.isLt _) (by rw [← oz_all, e])).symm
      simp (disch := first | assumption | omega) only [f_Ways_greaterPart_4, K1, lf_lt, Option.bind_some, nI_add, pk_mul, oz_sub, oz_addm1, oz_div, oz_mod, oz_ck, oz_nz, oz_le_t, oz_le_f, oz_lt_t, oz_lt_f, oz_eq_t, oz_eq_f, oz_eqm1, oz_m1eq, oz_neg1, oz_m1lt, oz_ltm1, oz_lem1, oz_m1le, oz_mx, oz_mn, if_true, if_false, ite_true, ite_false, oz_md_r, oz_md_o, oz_md_w, oz_md_wo, oz_md_2, Sum.elim_inl, Sum.elim_inr, pl_0, pl_1, pl_2, pl_3, pl_4, pl_5, pl_6, pl_7, pl_8, pl_9, pl_10, pl_11, pl_12, pl_13, pl_80, e, c_wIsOver (oz_fw_iw w2) w1 hp]
      rw [e] at e2
      rw [e2]
      cases oz_wv w p with
      | true => simp
      | false => simp) 5000 (by omega)
  rw [oz_it_sum, oz_nm_sum (v := fun w => if oz_wv w p = true then 1 else 0) 510 (by
    intro w hw hf
    have e := K2 w hw hf
    have e2 : (s.1 8 (oz_nm (oz_fw T H) w)).toBitVec.toNat = w := (oz_inj (by omega) (BitVec.isLt _) (by rw [← oz_all, e])).symm
    rw [e2])] at key
  have ec : oz_sum (fun w => if oz_fw T H w = true then (if oz_wv w p = true then 1 else 0) else 0) 510 = oz_cg T H p := by
    have : oz_cg T H p = oz_nm (fun w => oz_fw T H w && oz_wv w p) 510 := (oz_nm_gap 60 (fun w h1 h2 => by rw [oz_fw_f (oz_iw_gap1 (u := 4) (by omega) h1 h2), Bool.false_and])).symm
    rw [this]
    refine oz_sum_congr (fun w _ => ?_)
    show _ = if (oz_fw T H w && oz_wv w p) = true then 1 else 0
    cases oz_fw T H w <;> cases oz_wv w p <;> simp
  rw [ec] at key
  have hle := oz_cg_le (T := T) (H := H) (p := p)
  rw [oz_nm_450] at K1 l80
  unfold f_Ways_greaterPart oz_gp
  simp (disch := first | assumption | omega) only [lf_lt, pl_0, key, Option.bind_some, K1, oz_sub, oz_mx]
theorem oz_gp_le {p : Nat} : oz_gp T H p ≤ 80 := by
  have hle := oz_cg_le (T := T) (H := H) (p := p)
  have l80 := oz_nm_le80 (T := T) (H := H) (n := 450) (by omega)
  unfold oz_gp
  omega
theorem c_placeToLook (K : oz_KL s T H 510) : f_Ways_placeToLook s = some (oz_en (oz_lk T H)) := by
  have K1 := K.1
  rw [oz_nm_450] at K1
  have l80 := oz_nm_le80 (T := T) (H := H) (n := 450) (by omega)
  have e0 : oz_en ((none : Option (Nat × Nat)).map Prod.fst) = oz_N := rfl
  unfold f_Ways_placeToLook oz_lk
  by_cases c : 2 ≤ oz_nm (oz_fw T H) 450
  · rw [K1, pl_2, oz_ile_t c (by omega), if_pos c]
    have key := (oz_forI (N := 100) (fun p (x : Option (Nat × Nat)) => ∀ f l, x = some (f, l) → f < p ∧ l ≤ 80) (fun f p x => f_Ways_placeToLook_19 f (oz_en (x.map Prod.fst)) (match x with
      | none => nI (oz_nm (oz_fw T H) 450)
      | some (_, l) => nI l) (nI p) s) (oz_mins (oz_gp T H)) (fun x => oz_en (x.map Prod.fst)) none (by intro f l h; cases h) (fun p x _ hx => oz_mins_I oz_gp_le hx) (by
      intro f x hx
      simp (disch := first | assumption | omega) only [f_Ways_placeToLook_19, lf_lt, Option.bind_some, nI_add, pk_mul, oz_sub, oz_addm1, oz_div, oz_mod, oz_ck, oz_nz, oz_le_t, oz_le_f, oz_lt_t, oz_lt_f, oz_eq_t, oz_eq_f, oz_eqm1, oz_m1eq, oz_neg1, oz_m1lt, oz_ltm1, oz_lem1, oz_m1le, oz_mx, oz_mn, if_true, if_false, ite_true, ite_false, oz_md_r, oz_md_o, oz_md_w, oz_md_wo, oz_md_2, Sum.elim_inl, Sum.elim_inr, pl_0, pl_1, pl_2, pl_3, pl_4, pl_5, pl_6, pl_7, pl_8, pl_9, pl_10, pl_11, pl_12, pl_13, pl_100]) (by
      intro f p x hp hx
      have hg := oz_gp_le (T := T) (H := H) (p := p)
      cases x with
      | none =>
        have e : oz_mins (oz_gp T H) p none = some (p, oz_gp T H p) := rfl
        rw [e]
        simp only [Option.map_none, Option.map_some, oz_en]
        simp (disch := first | assumption | omega) only [f_Ways_placeToLook_19, lf_lt, Option.bind_some, nI_add, pk_mul, oz_sub, oz_addm1, oz_div, oz_mod, oz_ck, oz_nz, oz_le_t, oz_le_f, oz_lt_t, oz_lt_f, oz_eq_t, oz_eq_f, oz_eqm1, oz_m1eq, oz_neg1, oz_m1lt, oz_ltm1, oz_lem1, oz_m1le, oz_mx, oz_mn, if_true, if_false, ite_true, ite_false, oz_md_r, oz_md_o, oz_md_w, oz_md_wo, oz_md_2, Sum.elim_inl, Sum.elim_inr, pl_0, pl_1, pl_2, pl_3, pl_4, pl_5, pl_6, pl_7, pl_8, pl_9, pl_10, pl_11, pl_12, pl_13, pl_100, c_greaterPart K]
      | some y =>
        obtain ⟨f2, l2⟩ := y
        have i2 := hx f2 l2 rfl
        have e : oz_mins (oz_gp T H) p (some (f2, l2)) = if oz_gp T H p < l2 then some (p, oz_gp T H p) else some (f2, l2) := rfl
        rw [e]
        simp only [Option.map_some, oz_en]
        by_cases c2 : oz_gp T H p < l2
        · rw [if_pos c2]
          simp (disch := first | assumption | omega) only [f_Ways_placeToLook_19, lf_lt, Option.bind_some, nI_add, pk_mul, oz_sub, oz_addm1, oz_div, oz_mod, oz_ck, oz_nz, oz_le_t, oz_le_f, oz_lt_t, oz_lt_f, oz_eq_t, oz_eq_f, oz_eqm1, oz_m1eq, oz_neg1, oz_m1lt, oz_ltm1, oz_lem1, oz_m1le, oz_mx, oz_mn, if_true, if_false, ite_true, ite_false, oz_md_r, oz_md_o, oz_md_w, oz_md_wo, oz_md_2, Sum.elim_inl, Sum.elim_inr, pl_0, pl_1, pl_2, pl_3, pl_4, pl_5, pl_6, pl_7, pl_8, pl_9, pl_10, pl_11, pl_12, pl_13, pl_100, c_greaterPart K]
          rfl
        · rw [if_neg c2]
          simp (disch := first | assumption | omega) only [f_Ways_placeToLook_19, lf_lt, Option.bind_some, nI_add, pk_mul, oz_sub, oz_addm1, oz_div, oz_mod, oz_ck, oz_nz, oz_le_t, oz_le_f, oz_lt_t, oz_lt_f, oz_eq_t, oz_eq_f, oz_eqm1, oz_m1eq, oz_neg1, oz_m1lt, oz_ltm1, oz_lem1, oz_m1le, oz_mx, oz_mn, if_true, if_false, ite_true, ite_false, oz_md_r, oz_md_o, oz_md_w, oz_md_wo, oz_md_2, Sum.elim_inl, Sum.elim_inr, pl_0, pl_1, pl_2, pl_3, pl_4, pl_5, pl_6, pl_7, pl_8, pl_9, pl_10, pl_11, pl_12, pl_13, pl_100, c_greaterPart K]
          rfl) 5000 (by omega)).1
    try dsimp only at key
    rw [e0] at key
    simp only [lf_lt, pl_0, pl_1, oz_neg1, key, Option.bind_some]
  · rw [K1, pl_2, oz_ile_f (by omega) (by omega), if_neg c]
    rfl
end
