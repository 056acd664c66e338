/-! ===== acts, 2 ===== -/
section
variable {s : lf_S} {a a' : Nat → Nat} {L : List (Nat × Nat × List Nat)} {n o : Nat} {E : Nat → Nat → Nat} {T : Nat → Nat} {len : Nat}
theorem oz_V_sk (V : oz_V a) {k v : Nat} (hk : k < a 5) (h1 : 1 ≤ v) (h9 : v ≤ 9) : oz_V (oz_up a (98 + 2 * k) v) := by
  have h0 := oz_v0 V
  have h0' := h0
  unfold oz_V0 at h0'
  have e : oz_eqr 0 13 a (oz_up a (98 + 2 * k) v) := oz_eqr_up oz_eqr_rf (by omega)
  refine oz_V_mk ?_ (oz_VB_cg V (e 3 (by omega) (by omega)) (oz_eqr_up oz_eqr_rf (by omega))) (oz_VK_cg V (e 4 (by omega) (by omega)) (oz_eqr_up oz_eqr_rf (by omega))) ?_ (oz_VO_cg V (e 4 (by omega) (by omega)) (e 6 (by omega) (by omega)) (oz_eqr_up oz_eqr_rf (by omega))) (oz_VS_cg V (oz_eqr_up oz_eqr_rf (by omega))) (oz_VL_cg V (oz_eqr_up oz_eqr_rf (by omega)))
  · unfold oz_V0
    rw [e 0 (by omega) (by omega), e 3 (by omega) (by omega), e 4 (by omega) (by omega), e 5 (by omega) (by omega), e 6 (by omega) (by omega), e 7 (by omega) (by omega), e 8 (by omega) (by omega), e 9 (by omega) (by omega), e 10 (by omega) (by omega), e 11 (by omega) (by omega), e 12 (by omega) (by omega)]
    exact h0'
  · intro h hh
    rw [e 5 (by omega) (by omega)] at hh
    have h3 := V.2.2.2.1 h hh
    unfold oz_V3 oz_sk oz_wg at h3 ⊢
    rw [oz_up_n (j := 98 + 2 * h + 1) (by omega)]
    unfold oz_up
    split
    · exact ⟨h1, h9, h3.2.2⟩
    · exact h3
theorem oz_C_sk (V : oz_V a) (C : oz_C s 10 a) {k v : Nat} (hk : k < a 5) : oz_C (lf_w s (10 + 15 + 1) k (nI v)) 10 (oz_up a (98 + 2 * k) v) := by
  have hv := oz_V6 V
  have f : ∀ p, p ≠ 26 → (lf_w s (10 + 15 + 1) k (nI v)).1 p = s.1 p := fun p hp => oz_w_o hp
  obtain ⟨C0, CB, CK, CH, CO, CL, CS⟩ := C
  refine ⟨oz_C0_cg C0 (f 10 (by omega)) (oz_up_n (by omega)) (oz_eqr_up oz_eqr_rf (by omega)) (oz_up_n (by omega)), oz_CB_cg V CB (fun p h1 h2 => f p (by omega)) (oz_up_n (by omega)) (oz_eqr_up oz_eqr_rf (by omega)), oz_CK_cg V CK (fun p h1 h2 => f p (by omega)) (oz_up_n (by omega)) (oz_eqr_up oz_eqr_rf (by omega)), ⟨?_, ?_⟩, oz_CO_cg V CO (fun p h1 h2 => f p (by omega)) (oz_up_n (by omega)) (oz_eqr_up oz_eqr_rf (by omega)), oz_CL_cg V CL (fun p h1 h2 => f p (by omega)) (oz_up_n (by omega)) (oz_eqr_up oz_eqr_rf (by omega)), oz_CS_cg CS (f (10 + 23) (by omega)) (oz_eqr_up oz_eqr_rf (by omega))⟩
  · rw [f _ (by omega), oz_up_n (by omega)]; exact CH.1
  · intro i hi
    rw [oz_up_n (by omega)] at hi
    have h := CH.2 i hi
    unfold oz_sk oz_wg at h ⊢
    rw [oz_up_n (j := 98 + 2 * i + 1) (by omega)]
    refine ⟨?_, by rw [f _ (by omega)]; exact h.2⟩
    by_cases c : i = k
    · rw [c, oz_w_s, oz_up_s]
    · rw [oz_w_n c, oz_up_n (by omega)]; exact h.1
theorem oz_V_bd (V : oz_V a) {k w v : Nat} (hk : k < a 3) (hw : w = 1 ∨ w = 3) (h9 : v ≤ 9) : oz_V (oz_up a (13 + 4 * k + w) v) := by
  have h0 := oz_v0 V
  have h0' := h0
  unfold oz_V0 at h0'
  have e : oz_eqr 0 13 a (oz_up a (13 + 4 * k + w) v) := oz_eqr_up oz_eqr_rf (by omega)
  refine oz_V_mk ?_ ?_ (oz_VK_cg V (e 4 (by omega) (by omega)) (oz_eqr_up oz_eqr_rf (by omega))) (oz_VH_cg V (e 5 (by omega) (by omega)) (oz_eqr_up oz_eqr_rf (by omega))) (oz_VO_cg V (e 4 (by omega) (by omega)) (e 6 (by omega) (by omega)) (oz_eqr_up oz_eqr_rf (by omega))) (oz_VS_cg V (oz_eqr_up oz_eqr_rf (by omega))) (oz_VL_cg V (oz_eqr_up oz_eqr_rf (by omega)))
  · unfold oz_V0
    rw [e 0 (by omega) (by omega), e 3 (by omega) (by omega), e 4 (by omega) (by omega), e 5 (by omega) (by omega), e 6 (by omega) (by omega), e 7 (by omega) (by omega), e 8 (by omega) (by omega), e 9 (by omega) (by omega), e 10 (by omega) (by omega), e 11 (by omega) (by omega), e 12 (by omega) (by omega)]
    exact h0'
  · intro h hh
    rw [e 3 (by omega) (by omega)] at hh
    have h3 := V.2.1 h hh
    unfold oz_V1 oz_bed at h3 ⊢
    rw [oz_up_n (j := 13 + 4 * h + 0) (by omega), oz_up_n (j := 13 + 4 * h + 2) (by omega)]
    refine ⟨h3.1, ?_, h3.2.2.1, h3.2.2.2.1, ?_⟩
    · unfold oz_up
      split
      · exact h9
      · exact h3.2.1
    · unfold oz_up
      split
      · exact h9
      · exact h3.2.2.2.2
theorem oz_C_bd (V : oz_V a) (C : oz_C s 10 a) {k w v : Nat} (hk : k < a 3) (hw : w < 4) : oz_C (lf_w s (10 + 1 + (1 + w)) k (nI v)) 10 (oz_up a (13 + 4 * k + w) v) := by
  have hv := oz_V6 V
  have f : ∀ p, p ≠ 10 + 1 + (1 + w) → (lf_w s (10 + 1 + (1 + w)) k (nI v)).1 p = s.1 p := fun p hp => oz_w_o hp
  obtain ⟨C0, CB, CK, CH, CO, CL, CS⟩ := C
  refine ⟨oz_C0_cg C0 (f 10 (by omega)) (oz_up_n (by omega)) (oz_eqr_up oz_eqr_rf (by omega)) (oz_up_n (by omega)), ⟨?_, ?_⟩, oz_CK_cg V CK (fun p h1 h2 => f p (by omega)) (oz_up_n (by omega)) (oz_eqr_up oz_eqr_rf (by omega)), oz_CH_cg V CH (fun p h1 h2 => f p (by omega)) (oz_up_n (by omega)) (oz_eqr_up oz_eqr_rf (by omega)), oz_CO_cg V CO (fun p h1 h2 => f p (by omega)) (oz_up_n (by omega)) (oz_eqr_up oz_eqr_rf (by omega)), oz_CL_cg V CL (fun p h1 h2 => f p (by omega)) (oz_up_n (by omega)) (oz_eqr_up oz_eqr_rf (by omega)), oz_CS_cg CS (f (10 + 23) (by omega)) (oz_eqr_up oz_eqr_rf (by omega))⟩
  · rw [f _ (by omega), oz_up_n (by omega)]; exact CB.1
  · intro i hi
    rw [oz_up_n (by omega)] at hi
    have h := CB.2 i hi
    have key : ∀ w', w' < 4 → s.1 (11 + (1 + w')) i = nI (oz_bed a i w') → (lf_w s (10 + 1 + (1 + w)) k (nI v)).1 (11 + (1 + w')) i = nI (oz_bed (oz_up a (13 + 4 * k + w) v) i w') := by
      intro w' hw' hs
      unfold oz_bed at hs ⊢
      by_cases c : i = k ∧ w' = w
      · rw [c.1, c.2, oz_w_s, oz_up_s]
      · rw [oz_up_n (by omega), ← hs]
        by_cases c2 : w' = w
        · rw [c2, oz_w_n (by omega)]
        · rw [f _ (by omega)]
    exact ⟨key 0 (by omega) h.1, key 1 (by omega) h.2.1, key 2 (by omega) h.2.2.1, key 3 (by omega) h.2.2.2⟩
theorem q_sell (I : oz_I s a L n o E T len) (x y : Int32) : oz_An oz_H304 (f_Main_sell x y s) (f_Mod_sell x y) := by
  have V := oz_IV I
  have C := oz_IC I
  have hv := oz_v0 V
  unfold oz_V0 at hv
  rcases oz_isr x 1 6 (by omega) (by omega) with ⟨k, h1, h2, rfl, _⟩ | ⟨h1, _⟩
  · have d1 : f_Mod_isIn (nI k) (1 : Int32) (6 : Int32) = some true := m_isIn_t (l := 1) (h := 6) h1 h2 (by omega)
    rcases oz_isr y 1 999 (by omega) (by omega) with ⟨m, m1, m2, rfl, _⟩ | ⟨m1, _⟩
    · have d2 : f_Mod_isIn (nI m) (1 : Int32) (999 : Int32) = some true := m_isIn_t (l := 1) (h := 999) m1 m2 (by omega)
      have c2 : f_Main_needWithin (nI m) (1 : Int32) (999 : Int32) s = some (Sum.inr (), s) := c_needWithin_t (l := 1) (h := 999) m1 m2 (by omega)
      have hkm : k * m ≤ 6 * 999 := Nat.mul_le_mul h2 m2
      have hst := oz_v5 V h1 h2
      by_cases c : oz_sto a k < m
      · refine oz_ql I (e := 4) (k := 3) (s1 := s) ?_ oz_kp_rf rfl (by omega) (by omega) (fun z Ix => ?_)
        · unfold f_Main_sell
          rw [c_needFeet_t h1 h2, oz_tb_r, c2, oz_tb_r, oz_ck (by omega) (by omega), oz_C_S C k h1 h2, if_pos (by rw [oz_lt_t c (by omega)]; trivial), oz_ps0, oz_tb_l]
        · unfold f_Mod_sell
          rw [oz_bt d1, oz_bt d2, m_stored h1 h2, Option.bind_some, if_neg (by rw [oz_le_f c (by omega)]; exact id), oz_th3]
      · have V1 : oz_V (oz_up a (37 + k - 1) (oz_sto a k - m)) := oz_V_sto V h1 h2 (by omega)
        have V2 : oz_V (oz_up (oz_up a (37 + k - 1) (oz_sto a k - m)) 8 (min (a 8 + k * m / 2) 9999)) := oz_V_up V1 (by omega)
        have e8 : (oz_up a (37 + k - 1) (oz_sto a k - m)) 8 = a 8 := oz_up_n (by omega)
        refine oz_act I (v := nI (min (a 8 + k * m / 2) 9999)) V2 (by rw [oz_up_n (by omega), oz_up_n (by omega)]) (by rw [oz_up_n (by omega), oz_up_n (by omega)]) (fun j hj => by rw [oz_up_n (by omega), oz_up_n (by omega)]) (fun t1 k1 k2 k3 => ?_) (fun z Pz _ => ?_)
        · have C1 := oz_C_sto V k2 (f := k) (v := oz_sto a k - m) h1 h2
          have C2 := oz_C_num V1 C1 (k := 8) (i := 8) (v := min (a 8 + k * m / 2) 9999) (by omega)
          refine ⟨_, ?_, C2, oz_fr_tr (oz_fr_w (by omega)) (oz_fr_w (by omega))⟩
          unfold f_Main_sell f_Holt_earn
          rw [c_needFeet_t h1 h2, oz_tb_r, c2, oz_tb_r, oz_ck (by omega) (by omega), oz_C_S C k h1 h2, if_neg (by rw [oz_lt_f (by omega) (by omega)]; exact id), oz_ps1, oz_tb_r, k1, Option.bind_some, oz_ck (by omega) (by omega), oz_ck (by omega) (by omega), oz_C_S k2 k h1 h2, oz_sub (by omega)]
          simp only [lf_lt, pk_mul, pl_2]
          rw [oz_div (by omega) (by omega) (by omega), oz_C0_8 C1.1, e8, nI_add, pl_9999, oz_mn (by omega) (by omega), Option.bind_some, oz_w_s]
        · obtain ⟨t, g1, g2, g3, g4, g5⟩ := oz_sets0 (a := a) Pz (k := 8) (v := min (a 8 + k * m / 2) 9999) (by omega)
          refine ⟨t, ?_, g2, g3, oz_frk g4, fun j hj => g5 j (by omega) (by omega)⟩
          have e9 : oz_up a 8 (min (a 8 + k * m / 2) 9999) (37 + k - 1) = oz_sto a k := oz_up_n (by omega)
          unfold f_Mod_sell
          rw [oz_bt d1, oz_bt d2, m_stored h1 h2, Option.bind_some, if_pos (by rw [oz_le_t (by omega) (by omega)]; trivial), oz_th0, pl_8, oz_ck (by omega) (by omega), oz_md_r, pk_mul, pl_2, oz_div (by omega) (by omega) (by omega), nI_add, pl_9999, m_lesser (by omega) (by omega), Option.bind_some, Nat.min_comm, g1, Option.bind_some]
          simp only [lf_lt]
          rw [show (37 : Int32) = nI 37 from rfl, nI_add, pl_1, oz_sub (by omega), oz_ck (by omega) (by omega), oz_ck (by omega) (by omega), oz_md_r, e9, oz_sub (by omega), oz_md_w, oz_ck (by omega) (by omega), oz_md_r, oz_up_n (by omega), oz_up_s, oz_up_cm (by omega)]
    · refine oz_ql I (e := 0) (k := 2) (s1 := s) ?_ oz_kp_rf rfl (by omega) (by omega) (fun z Ix => ?_)
      · unfold f_Main_sell
        rw [c_needFeet_t h1 h2, oz_tb_r, show f_Main_needWithin y (1 : Int32) (999 : Int32) s = some (Sum.inl 0, s) from c_needWithin_f m1, oz_tb_l]
      · unfold f_Mod_sell
        rw [oz_bt d1, oz_bf (show f_Mod_isIn y (1 : Int32) (999 : Int32) = some false from m_isIn_o m1), oz_th2]
  · refine oz_ql I (e := 3) (k := 1) (s1 := s) ?_ oz_kp_rf rfl (by omega) (by omega) (fun z Ix => ?_)
    · unfold f_Main_sell
      rw [c_needFeet_f h1, oz_tb_l]
    · unfold f_Mod_sell
      rw [oz_bf (show f_Mod_isIn x (1 : Int32) (6 : Int32) = some false from m_isIn_o h1), oz_th1]
theorem q_teach (I : oz_I s a L n o E T len) (x : Int32) : oz_An oz_H3 (f_Main_teach x s) (f_Mod_teach x) := by
  have V := oz_IV I
  have C := oz_IC I
  have hv := oz_V6 V
  rcases oz_isix x (a 5) (by omega) with ⟨k, h1, rfl, _⟩ | ⟨h1, _⟩
  · have h3 := V.2.2.2.1 k h1
    unfold oz_V3 at h3
    refine oz_act I (v := nI (min (oz_sk a k + 1) 9)) (a' := oz_up a (98 + 2 * k) (min (oz_sk a k + 1) 9)) ?_ (oz_up_n (by omega)) (oz_up_n (by omega)) (fun j hj => oz_up_n (by omega)) (fun t1 k1 k2 k3 => ?_) (fun z Pz _ => ?_)
    · exact oz_V_sk V h1 (by omega) (by omega)
    · refine ⟨_, ?_, oz_C_sk V k2 h1 (v := min (oz_sk a k + 1) 9), oz_fr_w (by omega)⟩
      unfold f_Main_teach
      rw [c_nHand_t C h1 (by omega), oz_tb_r, k1, Option.bind_some, oz_ck (by omega) (by omega), oz_ck (by omega) (by omega), ((oz_C_H k2).2 k h1).1, pl_1, nI_add, pl_9, oz_mn (by omega) (by omega)]
      simp only [lf_lt]
      rw [oz_ck (by omega) (by omega), oz_w_s]
    · obtain ⟨t, g1, g2, g3, g4, g5⟩ := oz_sets0 (a := a) Pz (k := 98 + 2 * k) (v := min (oz_sk a k + 1) 9) (by omega)
      refine ⟨t, ?_, g2, g3, oz_frk g4, fun j hj => g5 j (by omega) (by omega)⟩
      unfold f_Mod_teach
      rw [oz_bt (m_isHand_t h1 (by omega)), oz_th0, m_skill (by omega), Option.bind_some, pl_1, nI_add, pl_9, m_lesser (by omega) (by omega), Option.bind_some, Nat.min_comm, show (98 : Int32) = nI 98 from rfl, pl_2, pk_mul, nI_add, g1, Option.bind_some]
      simp only [lf_lt]
      rw [m_skill (by omega), Option.bind_some]
      exact congrArg (fun q => some (nI q, _)) oz_up_s
  · refine oz_ql I (e := 3) (k := 1) (s1 := s) ?_ oz_kp_rf rfl (by omega) (by omega) (fun z Ix => ?_)
    · unfold f_Main_teach
      rw [c_nHand_f C h1, oz_tb_l]
    · unfold f_Mod_teach
      rw [oz_bf (m_isHand_f h1), oz_th1]
end
