/-! ===== single numbers told anew ===== -/
section
variable {s : lf_S} {a : Nat → Nat}
theorem oz_V_sto (V : oz_V a) {f v : Nat} (h1 : 1 ≤ f) (h6 : f ≤ 6) (hv : v ≤ 9999) : oz_V (oz_up a (37 + f - 1) v) := by
  have h0 := oz_v0 V
  have h0' := h0
  unfold oz_V0 at h0'
  have e : oz_eqr 0 13 a (oz_up a (37 + f - 1) v) := oz_eqr_up oz_eqr_rf (by omega)
  refine oz_V_mk ?_ (oz_VB_cg V (e 3 (by omega) (by omega)) (oz_eqr_up oz_eqr_rf (by omega))) (oz_VK_cg V (e 4 (by omega) (by omega)) (oz_eqr_up oz_eqr_rf (by omega))) (oz_VH_cg V (e 5 (by omega) (by omega)) (oz_eqr_up oz_eqr_rf (by omega))) (oz_VO_cg V (e 4 (by omega) (by omega)) (e 6 (by omega) (by omega)) (oz_eqr_up oz_eqr_rf (by omega))) ?_ (oz_VL_cg V (oz_eqr_up oz_eqr_rf (by omega)))
  · unfold oz_V0
    rw [e 0 (by omega) (by omega), e 3 (by omega) (by omega), e 4 (by omega) (by omega), e 5 (by omega) (by omega), e 6 (by omega) (by omega), e 7 (by omega) (by omega), e 8 (by omega) (by omega), e 9 (by omega) (by omega), e 10 (by omega) (by omega), e 11 (by omega) (by omega), e 12 (by omega) (by omega)]
    exact h0'
  · intro g g1 g6
    unfold oz_sto oz_up
    split
    · exact hv
    · exact oz_v5 V g1 g6
/-- of the numbers from 7 to 12, and the count of texts -/
theorem oz_V_num (V : oz_V a) {k v : Nat} (hk : k = 0 ∨ (7 ≤ k ∧ k < 13) ∨ k = 1 ∨ k = 2) (h0' : oz_V0 (oz_up a k v)) : oz_V (oz_up a k v) := by
  have e : ∀ i, 3 ≤ i → i < 7 → oz_up a k v i = a i := fun i h1 h2 => oz_up_n (by omega)
  exact oz_V_mk h0' (oz_VB_cg V (e 3 (by omega) (by omega)) (oz_eqr_up oz_eqr_rf (by omega))) (oz_VK_cg V (e 4 (by omega) (by omega)) (oz_eqr_up oz_eqr_rf (by omega))) (oz_VH_cg V (e 5 (by omega) (by omega)) (oz_eqr_up oz_eqr_rf (by omega))) (oz_VO_cg V (e 4 (by omega) (by omega)) (e 6 (by omega) (by omega)) (oz_eqr_up oz_eqr_rf (by omega))) (oz_VS_cg V (oz_eqr_up oz_eqr_rf (by omega))) (oz_VL_cg V (oz_eqr_up oz_eqr_rf (by omega)))
theorem oz_V0_up (V : oz_V a) {k v : Nat} (h : (k = 0 ∧ v ≤ 12) ∨ (k = 7 ∧ v ≤ 100) ∨ (k = 8 ∧ v ≤ 9999) ∨ (k = 9 ∧ v ≤ 9999) ∨ (k = 10 ∧ v ≤ 1) ∨ (k = 11 ∧ v ≤ 60) ∨ (k = 12 ∧ v < 4294967296) ∨ k = 1 ∨ k = 2) : oz_V0 (oz_up a k v) := by
  have h0 := oz_v0 V
  unfold oz_V0 at h0 ⊢
  have e : ∀ i, oz_up a k v i = if i = k then v else a i := fun i => rfl
  rw [e 0, e 3, e 4, e 5, e 6, e 7, e 8, e 9, e 10, e 11, e 12]
  rcases h with ⟨rfl, h⟩ | ⟨rfl, h⟩ | ⟨rfl, h⟩ | ⟨rfl, h⟩ | ⟨rfl, h⟩ | ⟨rfl, h⟩ | ⟨rfl, h⟩ | rfl | rfl <;> simp <;> omega
theorem oz_V_up (V : oz_V a) {k v : Nat} (h : (k = 0 ∧ v ≤ 12) ∨ (k = 7 ∧ v ≤ 100) ∨ (k = 8 ∧ v ≤ 9999) ∨ (k = 9 ∧ v ≤ 9999) ∨ (k = 10 ∧ v ≤ 1) ∨ (k = 11 ∧ v ≤ 60) ∨ (k = 12 ∧ v < 4294967296) ∨ k = 1 ∨ k = 2) : oz_V (oz_up a k v) := oz_V_num V (by omega) (oz_V0_up V h)
theorem oz_ord_up {o o' w w' v : Nat} (hw : w < 3) (hw' : w' < 3) : oz_ord (oz_up a (108 + 3 * o + w) v) o' w' = if o' = o ∧ w' = w then v else oz_ord a o' w' := by
  unfold oz_ord oz_up
  by_cases c : o' = o ∧ w' = w
  · rw [if_pos c, if_pos (by omega)]
  · rw [if_neg c, if_neg (by omega)]
theorem oz_V_opn (V : oz_V a) {o v : Nat} (h : o < a 6) (hv : v ≤ 1) : oz_V (oz_up a (108 + 3 * o + 2) v) := by
  have h0 := oz_v0 V
  have h0' := h0
  unfold oz_V0 at h0'
  have e : oz_eqr 0 13 a (oz_up a (108 + 3 * o + 2) v) := oz_eqr_up oz_eqr_rf (by omega)
  refine oz_V_mk ?_ (oz_VB_cg V (e 3 (by omega) (by omega)) (oz_eqr_up oz_eqr_rf (by omega))) (oz_VK_cg V (e 4 (by omega) (by omega)) (oz_eqr_up oz_eqr_rf (by omega))) (oz_VH_cg V (e 5 (by omega) (by omega)) (oz_eqr_up oz_eqr_rf (by omega))) ?_ (oz_VS_cg V (oz_eqr_up oz_eqr_rf (by omega))) (oz_VL_cg V (oz_eqr_up oz_eqr_rf (by omega)))
  · unfold oz_V0
    rw [e 0 (by omega) (by omega), e 3 (by omega) (by omega), e 4 (by omega) (by omega), e 5 (by omega) (by omega), e 6 (by omega) (by omega), e 7 (by omega) (by omega), e 8 (by omega) (by omega), e 9 (by omega) (by omega), e 10 (by omega) (by omega), e 11 (by omega) (by omega), e 12 (by omega) (by omega)]
    exact h0'
  · intro o' ho'
    rw [e 6 (by omega) (by omega)] at ho'
    have h4 := oz_v4 V ho'
    unfold oz_V4 at h4 ⊢
    rw [oz_ord_up (by omega) (by omega), oz_ord_up (by omega) (by omega), oz_ord_up (by omega) (by omega), e 4 (by omega) (by omega), if_neg (by omega), if_neg (by omega)]
    refine ⟨h4.1, h4.2.1, h4.2.2.1, ?_⟩
    split
    · exact hv
    · exact h4.2.2.2
/-! ===== the log ===== -/
def oz_shf (a : Nat → Nat) (k : Nat) : Nat → Nat := fun j => if 126 + k < j ∧ j < 366 then a (j - 4) else a j
def oz_logs (a : Nat → Nat) (w x n : Nat) : Nat → Nat := oz_up (oz_up (oz_up (oz_up (oz_up (oz_shf a 3) 126 (a 9)) 127 w) 128 x) 129 n) 11 (min 60 (a 11 + 1))
theorem oz_logs_eqr {lo hi w x n : Nat} (h : hi ≤ 126 ∨ 366 ≤ lo) (h2 : hi ≤ 11 ∨ 12 ≤ lo) : oz_eqr lo hi a (oz_logs a w x n) := by
  unfold oz_logs
  refine oz_eqr_up (oz_eqr_up (oz_eqr_up (oz_eqr_up (oz_eqr_up (fun i h1 h2 => ?_) (by omega)) (by omega)) (by omega)) (by omega)) (by omega)
  unfold oz_shf
  rw [if_neg (by omega)]
theorem oz_logs_row {w x n g c : Nat} (hg : 1 ≤ g) (hg2 : g < 60) (hc : c < 4) : oz_logs a w x n (126 + (4 * g + c)) = a (126 + (4 * (g - 1) + c)) := by
  unfold oz_logs
  rw [oz_up_n (by omega), oz_up_n (by omega), oz_up_n (by omega), oz_up_n (by omega), oz_up_n (by omega)]
  unfold oz_shf
  rw [if_pos (by omega), show 126 + (4 * g + c) - 4 = 126 + (4 * (g - 1) + c) by omega]
theorem oz_logs_V (V : oz_V a) {w x n : Nat} (hw : w ≤ 9999) (hx : x ≤ 9999) (hn : n ≤ 9999) : oz_V (oz_logs a w x n) := by
  have h0 := oz_v0 V
  have h0' := h0
  unfold oz_V0 at h0'
  have e : oz_eqr 0 11 a (oz_logs a w x n) := oz_logs_eqr (by omega) (by omega)
  have e12 : oz_logs a w x n 12 = a 12 := oz_logs_eqr (lo := 12) (hi := 13) (by omega) (by omega) 12 (by omega) (by omega)
  refine oz_V_mk ?_ (oz_VB_cg V (e 3 (by omega) (by omega)) (oz_logs_eqr (by omega) (by omega))) (oz_VK_cg V (e 4 (by omega) (by omega)) (oz_logs_eqr (by omega) (by omega))) (oz_VH_cg V (e 5 (by omega) (by omega)) (oz_logs_eqr (by omega) (by omega))) (oz_VO_cg V (e 4 (by omega) (by omega)) (e 6 (by omega) (by omega)) (oz_logs_eqr (by omega) (by omega))) (oz_VS_cg V (oz_logs_eqr (by omega) (by omega))) ?_
  · unfold oz_V0
    rw [e 0 (by omega) (by omega), e 3 (by omega) (by omega), e 4 (by omega) (by omega), e 5 (by omega) (by omega), e 6 (by omega) (by omega), e 7 (by omega) (by omega), e 8 (by omega) (by omega), e 9 (by omega) (by omega), e 10 (by omega) (by omega), e12, show oz_logs a w x n 11 = min 60 (a 11 + 1) from oz_up_s]
    omega
  · intro i hi
    unfold oz_logs
    rw [oz_up_n (by omega)]
    by_cases c : 126 + i = 129
    · rw [c, oz_up_s]; omega
    rw [oz_up_n c]
    by_cases c : 126 + i = 128
    · rw [c, oz_up_s]; omega
    rw [oz_up_n c]
    by_cases c : 126 + i = 127
    · rw [c, oz_up_s]; omega
    rw [oz_up_n c]
    by_cases c : 126 + i = 126
    · rw [c, oz_up_s]; omega
    rw [oz_up_n c]
    unfold oz_shf
    rw [if_pos (by omega), show 126 + i - 4 = 126 + (i - 4) by omega]
    exact oz_v6 V (by omega)
theorem m_logs (V : oz_V a) {w x n : Nat} : f_Mod_logs (nI w) (nI x) (nI n) (oz_md s a) = some (oz_md s (oz_logs a w x n)) := by
  have h0 := oz_v0 V
  unfold oz_V0 at h0
  have key : ∀ m fuel, m < 237 → m < fuel → f_Mod_logs_5 (nI w) (nI x) (nI n) fuel (nI (m + 3)) (oz_md s (oz_shf a (m + 3))) = some (oz_md s (oz_shf a 3)) := by
    intro m
    induction m with
    | zero =>
      intro fuel h1 h2
      obtain ⟨f, rfl⟩ : ∃ f, fuel = f + 1 := ⟨fuel - 1, by omega⟩
      simp (disch := first | assumption | omega) only [f_Mod_logs_5, lf_lt, Option.bind_some, nI_add, pk_mul, oz_sub, oz_addm1, oz_div, oz_mod, oz_ck, oz_nz, oz_le_t, oz_le_f, oz_lt_t, oz_lt_f, oz_eq_t, oz_eq_f, oz_eqm1, oz_m1eq, oz_neg1, oz_m1lt, oz_ltm1, oz_lem1, oz_m1le, oz_mx, oz_mn, if_true, if_false, ite_true, ite_false, oz_md_r, oz_md_o, oz_md_w, oz_md_wo, oz_md_2, Sum.elim_inl, Sum.elim_inr, pl_0, pl_1, pl_2, pl_3, pl_4, pl_5, pl_6, pl_7, pl_8, pl_9, pl_10, pl_11, pl_12, pl_13]
    | succ m ih =>
      intro fuel h1 h2
      obtain ⟨f, rfl⟩ : ∃ f, fuel = f + 1 := ⟨fuel - 1, by omega⟩
      have e1 : oz_shf a (m + 1 + 3) (126 + (m + 1 + 3) - 4) = a (126 + (m + 1 + 3) - 4) := if_neg (by omega)
      have e2 : oz_up (oz_shf a (m + 1 + 3)) (126 + (m + 1 + 3)) (a (126 + (m + 1 + 3) - 4)) = oz_shf a (m + 3) := by
        funext j
        unfold oz_up oz_shf
        by_cases c : j = 126 + (m + 1 + 3)
        · rw [if_pos c, if_pos (by omega), c]
        · rw [if_neg c]
          by_cases c2 : 126 + (m + 1 + 3) < j ∧ j < 366
          · rw [if_pos c2, if_pos (by omega)]
          · rw [if_neg c2, if_neg (by omega)]
      have e3 : m + 1 + 3 - 1 = m + 3 := by omega
      simp (disch := first | assumption | omega) only [f_Mod_logs_5, lf_lt, Option.bind_some, nI_add, pk_mul, oz_sub, oz_addm1, oz_div, oz_mod, oz_ck, oz_nz, oz_le_t, oz_le_f, oz_lt_t, oz_lt_f, oz_eq_t, oz_eq_f, oz_eqm1, oz_m1eq, oz_neg1, oz_m1lt, oz_ltm1, oz_lem1, oz_m1le, oz_mx, oz_mn, if_true, if_false, ite_true, ite_false, oz_md_r, oz_md_o, oz_md_w, oz_md_wo, oz_md_2, Sum.elim_inl, Sum.elim_inr, pl_0, pl_1, pl_2, pl_3, pl_4, pl_5, pl_6, pl_7, pl_8, pl_9, pl_10, pl_11, pl_12, pl_13, pl_126, e1, e2, e3]
      exact ih f (by omega) (by omega)
  have k1 := key 236 5000 (by omega) (by omega)
  have e0 : oz_shf a (236 + 3) = a := by
    funext j
    exact if_neg (by omega)
  rw [e0] at k1
  have e9 : oz_shf a 3 9 = a 9 := if_neg (by omega)
  have e11 : oz_up (oz_up (oz_up (oz_up (oz_shf a 3) 126 (a 9)) 127 w) 128 x) 129 n 11 = a 11 := by
    rw [oz_up_n (by omega), oz_up_n (by omega), oz_up_n (by omega), oz_up_n (by omega)]
    exact if_neg (by omega)
  unfold f_Mod_logs
  simp only [lf_lt, pl_239]
  rw [show (239 : Nat) = 236 + 3 from rfl, k1]
  simp (disch := first | assumption | omega) only [lf_lt, Option.bind_some, nI_add, pk_mul, oz_sub, oz_addm1, oz_div, oz_mod, oz_ck, oz_nz, oz_le_t, oz_le_f, oz_lt_t, oz_lt_f, oz_eq_t, oz_eq_f, oz_eqm1, oz_m1eq, oz_neg1, oz_m1lt, oz_ltm1, oz_lem1, oz_m1le, oz_mx, oz_mn, if_true, if_false, ite_true, ite_false, oz_md_r, oz_md_o, oz_md_w, oz_md_wo, oz_md_2, Sum.elim_inl, Sum.elim_inr, pl_0, pl_1, pl_2, pl_3, pl_4, pl_5, pl_6, pl_7, pl_8, pl_9, pl_10, pl_11, pl_12, pl_13, pl_126, pl_127, pl_128, pl_129, pl_60, e9, e11, m_lesser, oz_logs]
theorem c_logadd {q : Nat} (V : oz_V a) (C : oz_CL s q a) {w x n : Nat} : ∃ t, f_Log_add q (nI (a 9)) (nI w) (nI x) (nI n) s = some t ∧ oz_CL t q (oz_logs a w x n) ∧ oz_fr (fun p => p = q ∨ p = q + 1) s t := by
  have h0 := oz_v0 V
  unfold oz_V0 at h0
  have r0 : s.1 q 0 = nI (a 11) := C.1
  -- the four numbers of a row, put behind R rows
  have put : ∀ (u : lf_S) (R : Nat), R < 60 → u.1 q 0 = nI R → oz_fr (fun p => p = q ∨ p = q + 1) s u → (∀ g c, 1 ≤ g → g < R + 1 → c < 4 → u.1 (q + 1) (4 * (R - g) + c) = nI (a (126 + (4 * (g - 1) + c)))) → R + 1 = min 60 (a 11 + 1) →
      oz_CL (lf_w (lf_w (lf_w (lf_w (lf_w u (q + 1) (R * 4) (nI (a 9))) (q + 1) (R * 4 + 1) (nI w)) (q + 1) (R * 4 + 2) (nI x)) (q + 1) (R * 4 + 3) (nI n)) q 0 (nI (R + 1))) q (oz_logs a w x n) ∧ oz_fr (fun p => p = q ∨ p = q + 1) s (lf_w (lf_w (lf_w (lf_w (lf_w u (q + 1) (R * 4) (nI (a 9))) (q + 1) (R * 4 + 1) (nI w)) (q + 1) (R * 4 + 2) (nI x)) (q + 1) (R * 4 + 3) (nI n)) q 0 (nI (R + 1))) := by
    intro u R hR hu hf hg hm
    have el : oz_logs a w x n 11 = R + 1 := by rw [hm]; exact oz_up_s
    refine ⟨⟨by rw [el]; exact oz_w_s, fun g c hgl hc => ?_⟩, oz_fr_tr hf (oz_fr_tr (oz_fr_w (Or.inr rfl)) (oz_fr_tr (oz_fr_w (Or.inr rfl)) (oz_fr_tr (oz_fr_w (Or.inr rfl)) (oz_fr_tr (oz_fr_w (Or.inr rfl)) (oz_fr_w (Or.inl rfl))))))⟩
    rw [el] at hgl ⊢
    rw [oz_w_o (by omega), show R + 1 - 1 - g = R - g by omega]
    by_cases g0 : g = 0
    · subst g0
      have hl : ∀ v, 126 + (4 * 0 + c) = 126 + v → c = v := fun v h => by omega
      match c, hc with
      | 0, _ =>
        rw [oz_w_n (by omega), oz_w_n (by omega), oz_w_n (by omega), show 4 * (R - 0) + 0 = R * 4 by omega, oz_w_s]
        exact congrArg nI (show a 9 = oz_logs a w x n 126 by unfold oz_logs; rw [oz_up_n (by omega), oz_up_n (by omega), oz_up_n (by omega), oz_up_n (by omega), oz_up_s])
      | 1, _ =>
        rw [oz_w_n (by omega), oz_w_n (by omega), show 4 * (R - 0) + 1 = R * 4 + 1 by omega, oz_w_s]
        exact congrArg nI (show w = oz_logs a w x n 127 by unfold oz_logs; rw [oz_up_n (by omega), oz_up_n (by omega), oz_up_n (by omega), oz_up_s])
      | 2, _ =>
        rw [oz_w_n (by omega), show 4 * (R - 0) + 2 = R * 4 + 2 by omega, oz_w_s]
        exact congrArg nI (show x = oz_logs a w x n 128 by unfold oz_logs; rw [oz_up_n (by omega), oz_up_n (by omega), oz_up_s])
      | 3, _ =>
        rw [show 4 * (R - 0) + 3 = R * 4 + 3 by omega, oz_w_s]
        exact congrArg nI (show n = oz_logs a w x n 129 by unfold oz_logs; rw [oz_up_n (by omega), oz_up_s])
      | c + 4, hc => omega
    · rw [oz_w_n (by omega), oz_w_n (by omega), oz_w_n (by omega), oz_w_n (by omega), oz_logs_row (by omega) (by omega) hc]
      exact hg g c (by omega) hgl hc
  by_cases c60 : a 11 = 60
  · -- the rows are shifted
    have hu : ∀ v : Int32, (lf_w (lf_cp s (q + 1) 4 (q + 1) 0 236) q 0 v).1 q 0 = v := fun v => oz_w_s
    have hcp : ∀ j, j < 236 → (lf_cp s (q + 1) 4 (q + 1) 0 236).1 (q + 1) j = s.1 (q + 1) (4 + j) := by
      intro j hj
      show (if q + 1 = q + 1 then va_cpy (s.1 (q + 1)) (s.1 (q + 1)) 4 0 236 else s.1 (q + 1)) j = _
      rw [if_pos rfl, pk_cpy_in (by omega) (by omega), Nat.sub_zero]
    have hq0 : (lf_cp s (q + 1) 4 (q + 1) 0 236).1 q 0 = nI 60 := by
      show (if q = q + 1 then _ else s.1 q) 0 = _
      rw [if_neg (by omega), r0, c60]
    obtain ⟨p1, p2⟩ := put (lf_w (lf_cp s (q + 1) 4 (q + 1) 0 236) q 0 (nI 59)) 59 (by omega) oz_w_s
      (oz_fr_tr (t := lf_cp s (q + 1) 4 (q + 1) 0 236) ⟨fun p hp => if_neg (fun e => hp (Or.inr e)), rfl⟩ (oz_fr_w (Or.inl rfl))) (by
        intro g c h1 h2 h3
        rw [oz_w_o (by omega), hcp _ (by omega)]
        have := C.2 (g - 1) c (by omega) h3
        rw [show 4 * (a 11 - 1 - (g - 1)) + c = 4 + (4 * (59 - g) + c) by omega] at this
        exact this) (by omega)
    refine ⟨_, ?_, p1, p2⟩
    have e0 : (0 : Int32) = nI 0 := rfl
    unfold f_Log_add
    rw [r0, c60]
    have hc1 : ∀ A : Nat → Nat → Nat → Option lf_S, lf_cpk (nI 4) (nI 0) (nI 236) 240 240 A = A 4 0 236 := by
      intro A
      unfold lf_cpk
      rw [nI_clamp (by omega), nI_clamp (by omega), nI_clamp (by omega), if_neg (by decide +kernel)]
    have z1 : ∀ (u : lf_S) (k : Nat) (v : Int32), (lf_w u (q + 1) k v).1 q = u.1 q := fun u k v => oz_w_o (by omega)
    simp (disch := first | assumption | omega) only [lf_lt, Option.bind_some, nI_add, pk_mul, oz_sub, oz_addm1, oz_div, oz_mod, oz_ck, oz_nz, oz_le_t, oz_le_f, oz_lt_t, oz_lt_f, oz_eq_t, oz_eq_f, oz_eqm1, oz_m1eq, oz_neg1, oz_m1lt, oz_ltm1, oz_lem1, oz_m1le, oz_mx, oz_mn, if_true, if_false, ite_true, ite_false, oz_md_r, oz_md_o, oz_md_w, oz_md_wo, oz_md_2, Sum.elim_inl, Sum.elim_inr, pl_0, pl_1, pl_2, pl_3, pl_4, pl_5, pl_6, pl_7, pl_8, pl_9, pl_10, pl_11, pl_12, pl_13, pl_60, pl_236, hc1, hq0, oz_w_s, z1]
  · obtain ⟨p1, p2⟩ := put s (a 11) (by omega) r0 oz_fr_rf (by
        intro g c h1 h2 h3
        have := C.2 (g - 1) c (by omega) h3
        rw [show 4 * (a 11 - 1 - (g - 1)) + c = 4 * (a 11 - g) + c by omega] at this
        exact this) (by omega)
    refine ⟨_, ?_, p1, p2⟩
    have z1 : ∀ (u : lf_S) (k : Nat) (v : Int32), (lf_w u (q + 1) k v).1 q = u.1 q := fun u k v => oz_w_o (by omega)
    unfold f_Log_add
    simp (disch := first | assumption | omega) only [lf_lt, Option.bind_some, nI_add, pk_mul, oz_sub, oz_addm1, oz_div, oz_mod, oz_ck, oz_nz, oz_le_t, oz_le_f, oz_lt_t, oz_lt_f, oz_eq_t, oz_eq_f, oz_eqm1, oz_m1eq, oz_neg1, oz_m1lt, oz_ltm1, oz_lem1, oz_m1le, oz_mx, oz_mn, if_true, if_false, ite_true, ite_false, oz_md_r, oz_md_o, oz_md_w, oz_md_wo, oz_md_2, Sum.elim_inl, Sum.elim_inr, pl_0, pl_1, pl_2, pl_3, pl_4, pl_5, pl_6, pl_7, pl_8, pl_9, pl_10, pl_11, pl_12, pl_13, pl_60, r0, z1]
end
