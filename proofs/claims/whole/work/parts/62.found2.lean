/-! ===== found, look: the class's and the model's ===== -/
def oz_fd (T : Nat → Nat) (H : Nat) (x : Int32) : Int32 := if x = 0 then nI (oz_nm (oz_fw T H) 450) else oz_en (oz_fst (oz_fw T H) 0 450)
theorem oz_fst_nm {P : Nat → Bool} : ∀ k i, oz_nm P i = 0 → (oz_fst P i k = none → oz_nm P (i + k) = 0) ∧ ∀ w, oz_fst P i k = some w → w < i + k ∧ P w = true ∧ oz_nm P w = 0 := by
  intro k
  induction k with
  | zero => intro i h; exact ⟨fun _ => h, fun w hw => by cases hw⟩
  | succ k ih =>
    intro i h
    unfold oz_fst
    cases c : P i with
    | true =>
      rw [if_pos rfl]
      exact ⟨fun e => (nomatch e), fun w hw => by cases hw; exact ⟨by omega, c, h⟩⟩
    | false =>
      rw [if_neg (by simp)]
      have := ih (i + 1) (by rw [oz_nm_f c]; exact h)
      rw [show i + 1 + k = i + (k + 1) by omega] at this
      exact this
theorem oz_tape_t {s : lf_S} {b : Bool} (h : b = true) : f_Main_needTape (lf_i b) s = some (Sum.inr (), s) := by
  unfold f_Main_needTape
  rw [h]
  exact if_neg (by decide +kernel)
theorem oz_tape_f {s : lf_S} {b : Bool} (h : b = false) : f_Main_needTape (lf_i b) s = some (Sum.inl 0, s) := by
  unfold f_Main_needTape
  rw [h]
  exact if_pos (by decide +kernel)
theorem oz_sns_t {T : Nat → Nat} {len : Nat} (h : oz_sns T len = true) : ∃ H, len = 2 * H ∧ H ≤ 20 ∧ ∀ i, i < 2 * H → T i < if i % 2 = 0 then 100 else 2 := by
  unfold oz_sns at h
  rw [Bool.and_eq_true, Bool.and_eq_true, decide_eq_true_iff, decide_eq_true_iff, oz_ok_t] at h
  obtain ⟨⟨h1, h2⟩, h3⟩ := h
  rw [if_pos h1] at h2 h3
  refine ⟨len / 2, by omega, by omega, fun i hi => ?_⟩
  have := h3 i (by omega)
  unfold oz_sn at this
  exact of_decide_eq_true this
section
variable {s : lf_S} {T : Nat → Nat} {len : Nat}
theorem c_found (h : oz_T s T len) (x : Int32) : ∃ t, f_Main_found x s = some (if oz_sns T len = true then Sum.inr (oz_fd T (len / 2) x) else Sum.inl 0, t) ∧ t.1 1 1 = nI 0 ∧ oz_fr (fun p => p = 1 ∨ p = 3 ∨ p = 4 ∨ p = 8) s t := by
  obtain ⟨t, k1, g1, g2, g3, g4⟩ := c_takeSeen h
  unfold f_Main_found
  rw [k1, Option.bind_some]
  try dsimp only
  cases c : oz_sns T len with
  | false =>
    rw [oz_tape_f rfl, if_neg (by simp)]
    exact ⟨t, rfl, g3, oz_fr_mono g4 (by omega)⟩
  | true =>
    obtain ⟨H, rfl, hH, hT⟩ := oz_sns_t c
    rw [show 2 * H / 2 = H by omega]
    rw [if_pos (by omega)] at g1 g2
    have E : oz_SE t T H := ⟨hH, g1, fun i hi => ⟨by have := hT i hi; split at this <;> omega, g2 i hi⟩⟩
    obtain ⟨u, l1, l2, l3, l4⟩ := c_findWeaves E
    have l80 := oz_nm_le80 (T := T) (H := H) (n := 450) (by omega)
    have K1 := l2.1
    rw [oz_nm_450] at K1
    have fr : oz_fr (fun p => p = 1 ∨ p = 3 ∨ p = 4 ∨ p = 8) s u := oz_fr_tr (oz_fr_mono g4 (by omega)) (oz_fr_mono l3 (by omega))
    refine ⟨u, ?_, by rw [l3.1 1 (by omega)]; exact g3, fr⟩
    rw [oz_tape_t rfl, if_pos rfl]
    unfold lf_tb oz_fd
    rw [Option.bind_some]
    try dsimp only
    rw [l1, Option.bind_some]
    by_cases cx : x = 0
    · rw [if_pos cx, if_pos cx, K1]
    · rw [if_neg cx, if_neg cx, K1]
      have F := oz_fst_nm (P := oz_fw T H) 450 0 rfl
      rw [Nat.zero_add] at F
      cases cf : oz_fst (oz_fw T H) 0 450 with
      | none =>
        rw [F.1 cf, pl_0, oz_ile_t (by omega) (by omega), pl_1, oz_neg1]; rfl
      | some w =>
        obtain ⟨f1, f2, f3⟩ := F.2 w cf
        have e := l2.2 w (by omega) f2
        rw [f3] at e
        have m := oz_nm_mono (P := oz_fw T H) (m := w + 1) (449 - w)
        rw [oz_nm_t f2, show w + 1 + (449 - w) = 450 by omega] at m
        rw [pl_0, oz_ile_f (by omega) (by omega), oz_ck (by omega) (by omega), e]
        rfl
theorem c_look (h : oz_T s T len) : ∃ t, f_Main_look s = some (if oz_sns T len = true then Sum.inr (oz_en (oz_lk T (len / 2))) else Sum.inl 0, t) ∧ t.1 1 1 = nI 0 ∧ oz_fr (fun p => p = 1 ∨ p = 3 ∨ p = 4 ∨ p = 8) s t := by
  obtain ⟨t, k1, g1, g2, g3, g4⟩ := c_takeSeen h
  unfold f_Main_look
  rw [k1, Option.bind_some]
  try dsimp only
  cases c : oz_sns T len with
  | false =>
    rw [oz_tape_f rfl, if_neg (by simp)]
    exact ⟨t, rfl, g3, oz_fr_mono g4 (by omega)⟩
  | true =>
    obtain ⟨H, rfl, hH, hT⟩ := oz_sns_t c
    rw [show 2 * H / 2 = H by omega]
    rw [if_pos (by omega)] at g1 g2
    have E : oz_SE t T H := ⟨hH, g1, fun i hi => ⟨by have := hT i hi; split at this <;> omega, g2 i hi⟩⟩
    obtain ⟨u, l1, l2, l3, l4⟩ := c_findWeaves E
    have fr : oz_fr (fun p => p = 1 ∨ p = 3 ∨ p = 4 ∨ p = 8) s u := oz_fr_tr (oz_fr_mono g4 (by omega)) (oz_fr_mono l3 (by omega))
    refine ⟨u, ?_, by rw [l3.1 1 (by omega)]; exact g3, fr⟩
    rw [oz_tape_t rfl, if_pos rfl]
    unfold lf_tb
    rw [Option.bind_some]
    try dsimp only
    rw [l1, Option.bind_some, c_placeToLook l2, Option.bind_some]
def oz_pr (T : Nat → Nat) (j : Nat) : Bool := decide (T (2 * j) < 100 ∧ T (2 * j + 1) < 2)
theorem oz_sns_pr {H : Nat} (hH : H ≤ 20) : oz_sns T (2 * H) = oz_ok (oz_pr T) H := by
  rw [Bool.eq_iff_iff]
  constructor
  · intro h
    obtain ⟨H', e, _, h3⟩ := oz_sns_t h
    obtain rfl : H = H' := by omega
    rw [oz_ok_t]
    intro i hi
    have a := h3 (2 * i) (by omega)
    have b := h3 (2 * i + 1) (by omega)
    rw [if_pos (by omega)] at a
    rw [if_neg (by omega)] at b
    exact decide_eq_true ⟨a, b⟩
  · intro h
    rw [oz_ok_t] at h
    unfold oz_sns
    rw [if_pos (by omega), Bool.and_eq_true, Bool.and_eq_true, decide_eq_true_iff, decide_eq_true_iff, oz_ok_t]
    refine ⟨⟨by omega, by omega⟩, fun i hi => ?_⟩
    have := of_decide_eq_true (h (i / 2) (by omega))
    unfold oz_sn
    apply decide_eq_true
    by_cases c : i % 2 = 0
    · rw [if_pos c]
      rw [show 2 * (i / 2) = i by omega] at this
      exact this.1
    · rw [if_neg c]
      rw [show 2 * (i / 2) + 1 = i by omega] at this
      exact this.2
theorem m_sees30 {H : Nat} (hH : H ≤ 20) (h4 : ∀ i, i < 2 * H → T i ≤ 255 ∧ s.1 394 i = nI (T i)) : f_Mod_sees_30 (nI (2 * H)) 5000 (nI 1) (nI 0) s = some (lf_i (oz_ok (oz_pr T) H), s) := by
  obtain ⟨y, k1, k2⟩ := oz_forB (N := H) (fun i (x : Bool) => x = oz_ok (oz_pr T) i) (fun f i x => f_Mod_sees_30 (nI (2 * H)) f (lf_i x) (nI (2 * i)) s) (fun x => (lf_i x, s)) (by
      intro f x hx
      simp (disch := first | assumption | omega) only [f_Mod_sees_30, lf_lt, Option.bind_some, nI_add, pk_mul, oz_sub, oz_addm1, oz_div, oz_mod, oz_ck, oz_nz, oz_le_t, oz_le_f, oz_lt_t, oz_lt_f, oz_eq_t, oz_eq_f, oz_eqm1, oz_m1eq, oz_neg1, oz_m1lt, oz_ltm1, oz_lem1, oz_m1le, oz_mx, oz_mn, if_true, if_false, ite_true, ite_false, oz_md_r, oz_md_o, oz_md_w, oz_md_wo, oz_md_2, Sum.elim_inl, Sum.elim_inr, pl_0, pl_1, pl_2, pl_3, pl_4, pl_5, pl_6, pl_7, pl_8, pl_9, pl_10, pl_11, pl_12, pl_13]) (by
      intro f i x hi hx
      have e1 := h4 (2 * i) (by omega)
      have e2 := h4 (2 * i + 1) (by omega)
      cases x with
      | false =>
        right
        refine ⟨?_, ?_⟩
        · rw [f_Mod_sees_30, oz_ile_f (by omega) (by omega), if_pos (by decide +kernel)]
        · cases hz : oz_ok (oz_pr T) H with
          | false => rfl
          | true =>
            rw [oz_ok_t] at hz
            have : oz_ok (oz_pr T) i = true := (oz_ok_t i).2 (fun j hj => hz j (by omega))
            rw [this] at hx
            exact hx
      | true =>
        left
        refine ⟨oz_pr T i, ?_, ?_⟩
        · show oz_pr T i = (oz_ok (oz_pr T) i && oz_pr T i)
          rw [← hx]; rfl
        · rw [show 2 * (i + 1) = 2 * i + 2 by omega, f_Mod_sees_30, oz_ile_f (by omega) (by omega), if_neg (by decide +kernel)]
          simp (disch := first | assumption | omega) only [lf_lt, pl_0, pl_1, pl_2, pl_100, nI_add, oz_ck, e1.2, e2.2]
          unfold oz_pr
          by_cases c1 : T (2 * i) < 100
          · rw [oz_ile_f c1 (by omega)]
            by_cases c2 : T (2 * i + 1) < 2
            · rw [oz_ile_f c2 (by omega), decide_eq_true ⟨c1, c2⟩]; rfl
            · rw [oz_ile_t (by omega) (by omega), decide_eq_false (by omega)]; rfl
          · rw [oz_ile_t (by omega) (by omega), decide_eq_false (by omega)]; rfl) H 0 5000 true (by omega) (by omega) rfl
  rw [k2] at k1
  exact k1
theorem m_sees100 {H w : Nat} (hH : H ≤ 20) (hw5 : w < 450) (h4 : ∀ i, i < 2 * H → T i < (if i % 2 = 0 then 100 else 2) ∧ s.1 394 i = nI (T i)) (h0 : s.1 403 w = lf_i (oz_iw w)) : ∃ t, f_Mod_sees_100 (nI (2 * H)) (nI 1) (nI w) 5000 (nI 0) s = some t ∧ (t.1 403 w = lf_i (oz_fw T H w) ∧ oz_fr (fun p => p = 403) s t ∧ ∀ v, v ≠ w → t.1 403 v = s.1 403 v) := by
  exact oz_forB (N := H) (fun i (t : lf_S) => t.1 403 w = lf_i (oz_fw T i w) ∧ oz_fr (fun p => p = 403) s t ∧ ∀ v, v ≠ w → t.1 403 v = s.1 403 v) (fun f i t => f_Mod_sees_100 (nI (2 * H)) (nI 1) (nI w) f (nI (2 * i)) t) (fun t => t) (by
      intro f x hx
      simp (disch := first | assumption | omega) only [f_Mod_sees_100, lf_lt, Option.bind_some, nI_add, pk_mul, oz_sub, oz_addm1, oz_div, oz_mod, oz_ck, oz_nz, oz_le_t, oz_le_f, oz_lt_t, oz_lt_f, oz_eq_t, oz_eq_f, oz_eqm1, oz_m1eq, oz_neg1, oz_m1lt, oz_ltm1, oz_lem1, oz_m1le, oz_mx, oz_mn, if_true, if_false, ite_true, ite_false, oz_md_r, oz_md_o, oz_md_w, oz_md_wo, oz_md_2, Sum.elim_inl, Sum.elim_inr, pl_0, pl_1, pl_2, pl_3, pl_4, pl_5, pl_6, pl_7, pl_8, pl_9, pl_10, pl_11, pl_12, pl_13]) (by
      intro f i x hi hx
      obtain ⟨i1, i2, i3⟩ := hx
      have e1 := h4 (2 * i) (by omega)
      have e2 := h4 (2 * i + 1) (by omega)
      rw [if_pos (by omega)] at e1
      rw [if_neg (by omega)] at e2
      have x1 : x.1 394 (2 * i) = nI (T (2 * i)) := by rw [i2.1 394 (by omega)]; exact e1.2
      have x2 : x.1 394 (2 * i + 1) = nI (T (2 * i + 1)) := by rw [i2.1 394 (by omega)]; exact e2.2
      cases hf : oz_fw T i w with
      | false =>
        right
        refine ⟨?_, ?_, i2, i3⟩
        · rw [f_Mod_sees_100, oz_ile_f (by omega) (by omega), oz_ck hw5 (by omega), i1, hf, if_pos (by decide +kernel)]
        · rw [i1, hf]
          cases hz : oz_fw T H w with
          | false => rfl
          | true =>
            unfold oz_fw at hz hf
            rw [Bool.and_eq_true, oz_ok_t] at hz
            rw [hz.1, (oz_ok_t i).2 (fun j hj => hz.2 j (by omega))] at hf
            exact Bool.noConfusion hf
      | true =>
        left
        have hiw := oz_fw_iw hf
        have es : oz_fw T (i + 1) w = oz_sw T w i := by
          unfold oz_fw at hf ⊢
          rw [Bool.and_eq_true] at hf
          show (oz_iw w && (oz_ok (oz_sw T w) i && oz_sw T w i)) = _
          rw [hf.1, hf.2]; rfl
        refine ⟨lf_w x 403 w (lf_i (oz_fw T (i + 1) w)), ⟨oz_w_s, oz_fr_tr i2 (oz_fr_w rfl), fun v hv => by rw [oz_w_n hv]; exact i3 v hv⟩, ?_⟩
        rw [show 2 * (i + 1) = 2 * i + 2 by omega, f_Mod_sees_100, oz_ile_f (by omega) (by omega), oz_ck hw5 (by omega), i1, hf, if_neg (by decide +kernel), pl_1, pl_2, nI_add, nI_add, oz_ck (by omega) (by omega), x1, m_wIsPassed hiw (by omega) (by omega), Option.bind_some, oz_ck (by omega) (by omega), x2, es]
        unfold oz_sw
        by_cases c : T (2 * i + 1) = 1
        · rw [if_pos (by rw [c]), decide_eq_true c]
          cases oz_wv w (T (2 * i)) with
          | true => rw [if_pos (by decide +kernel), oz_ck hw5 (by omega)]; rfl
          | false => rw [if_neg (by decide +kernel), oz_ck hw5 (by omega)]; rfl
        · rw [if_neg (by rw [oz_eq (by omega) (by omega)]; exact c), decide_eq_false c]
          cases oz_wv w (T (2 * i)) with
          | true => rw [if_neg (by decide +kernel), oz_ck hw5 (by omega)]; rfl
          | false => rw [if_pos (by decide +kernel), oz_ck hw5 (by omega)]; rfl) H 0 5000 s (by omega) (by omega) ⟨by
            rw [h0]; unfold oz_fw oz_ok; rw [Bool.and_true], oz_fr_rf, fun _ _ => rfl⟩
end
