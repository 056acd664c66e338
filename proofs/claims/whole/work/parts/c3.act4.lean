/-! ===== acts, 4 ===== -/
section
variable {s : lf_S} {a a' : Nat → Nat} {L : List (Nat × Nat × List Nat)} {n o : Nat} {E : Nat → Nat → Nat} {T : Nat → Nat} {len : Nat}
theorem oz_mk_lo {k w j : Nat} (ho : k < 6) (hj : j < 7 ∨ 366 ≤ j) (hf : 1 ≤ oz_feet a k ∧ oz_feet a k ≤ 6) : oz_mk a k w j = a j := by
  unfold oz_mk oz_mk3 oz_mk2 oz_mk1
  rw [oz_logs_eqr (lo := j) (hi := j + 1) (by omega) (by omega) j (by omega) (by omega), oz_up_n (by omega), oz_up_n (by omega), oz_up_n (by omega)]
theorem q_make (I : oz_I s a L n o E T len) (x : Int32) : oz_An oz_H34 (f_Main_make x s) (f_Mod_make x) := by
  have V := oz_IV I
  have C := oz_IC I
  have hv := oz_V6 V
  rcases oz_isix x (a 6) (by omega) with ⟨k, h1, rfl, _⟩ | ⟨h1, _⟩
  · have hr := oz_rods_le V h1
    have v4 := oz_v4 V h1
    unfold oz_V4 at v4
    have d1 : ∀ t, f_Mod_isOrder (nI k) (oz_md t a) = some true := fun t => m_isOrder_t h1 (by omega)
    have d2 : ∀ t, f_Mod_ofOrder (nI k) (2 : Int32) (oz_md t a) = some (nI (oz_ord a k 2)) := fun t => m_ofOrder (w := 2) (by omega) (by omega)
    have d3 : ∀ t, f_Mod_hasRods (nI k) (oz_md t a) = some (oz_has a k) := fun t => m_hasRods V h1
    have w2 : ∀ t : lf_S, lf_w (oz_md t a) 389 0 (2 : Int32) = oz_md (lf_w t 389 0 (nI 2)) a := fun t => oz_md_wo (by omega)
    have ww : ∀ (t : lf_S) (u v : Int32), lf_w (lf_w t 389 0 u) 389 0 v = lf_w t 389 0 v := fun t u v => oz_w_w
    by_cases c2 : oz_ord a k 2 = 0
    · have ho : oz_opn a k = false := by unfold oz_opn; rw [c2]; rfl
      refine oz_ql I (e := 4) (k := 2) (s1 := s) ?_ oz_kp_rf rfl (by omega) (by omega) (fun z Ix => ?_)
      · unfold f_Main_make
        rw [c_nOrd_t C h1 (by omega), oz_tb_r, c_canMake V C h1, Option.bind_some, ho, Bool.false_and, show lf_i false = (0 : Int32) from rfl, oz_ps0, oz_tb_l]
      · unfold f_Mod_make
        rw [oz_bt (d1 z), oz_th0, d2, Option.bind_some, c2, if_pos (show nI 0 = (0 : Int32) from rfl), oz_th2, ww]
    · have ho : oz_opn a k = true := by unfold oz_opn; rw [show oz_ord a k 2 = 1 by omega]; rfl
      cases hh : oz_has a k with
      | false =>
        refine oz_ql I (e := 4) (k := 2) (s1 := s) ?_ oz_kp_rf rfl (by omega) (by omega) (fun z Ix => ?_)
        · unfold f_Main_make
          rw [c_nOrd_t C h1 (by omega), oz_tb_r, c_canMake V C h1, Option.bind_some, ho, hh, Bool.and_false, show lf_i false = (0 : Int32) from rfl, oz_ps0, oz_tb_l]
        · unfold f_Mod_make
          rw [oz_bt (d1 z), oz_th0, d2, Option.bind_some, if_neg (show ¬ (nI (oz_ord a k 2) = (0 : Int32)) by rw [pl_0, oz_eq (by omega) (by omega)]; exact c2), oz_bf (by rw [d3, hh]), oz_th2, ww]
      | true =>
        refine oz_act I (v := nI (oz_mk a k 2 8)) (a' := oz_mk a k 2) (oz_mk_V V h1 (by omega)).2.2.2 (oz_mk_lo (by omega) (by omega) hr.2.2) (oz_mk_lo (by omega) (by omega) hr.2.2) (fun j hj => oz_mk_lo (by omega) (by omega) hr.2.2) (fun t1 k1 k2 k3 => ?_) (fun z Pz _ => ?_)
        · obtain ⟨t2, l1, l2, l3⟩ := c_makeUp V k2 h1 (w := 2) (by omega) hh
          refine ⟨t2, ?_, l2, oz_fr_mono l3 (by omega)⟩
          unfold f_Main_make
          rw [c_nOrd_t C h1 (by omega), oz_tb_r, c_canMake V C h1, Option.bind_some, ho, hh, Bool.and_self, show lf_i true = (1 : Int32) from rfl, oz_ps1, oz_tb_r, k1, Option.bind_some, pl_2, l1, Option.bind_some, oz_C0_8 l2.1]
        · obtain ⟨t, g1, g2, g3, g4, g5⟩ := oz_rem0 (s := z) (a := a) Pz
          refine ⟨t, ?_, g2, g3, oz_frk g4, fun j hj => g5 j (by omega) (by omega)⟩
          unfold f_Mod_make
          rw [oz_bt (d1 z), oz_th0, d2, Option.bind_some, if_neg (show ¬ (nI (oz_ord a k 2) = (0 : Int32)) by rw [pl_0, oz_eq (by omega) (by omega)]; exact c2), oz_bt (by rw [d3, hh]), oz_th0, ww, g1, Option.bind_some, pl_2, m_makes V h1 (by omega) hh, Option.bind_some, pl_8, oz_ck (by omega) (by omega), oz_md_r]
  · refine oz_ql I (e := 3) (k := 1) (s1 := s) ?_ oz_kp_rf rfl (by omega) (by omega) (fun z Ix => ?_)
    · unfold f_Main_make
      rw [c_nOrd_f C h1, oz_tb_l]
    · unfold f_Mod_make
      rw [oz_bf (m_isOrder_f h1), oz_th1]
theorem q_cut (I : oz_I s a L n o E T len) (x : Int32) : oz_An oz_H34 (f_Main_cut x s) (f_Mod_cut x) := by
  have V := oz_IV I
  have C := oz_IC I
  have hv := oz_v0 V
  unfold oz_V0 at hv
  rcases oz_isix x (a 3) (by omega) with ⟨k, h1, rfl, _⟩ | ⟨h1, _⟩
  · have hw := oz_LW_wf I.2.2.2.1
    have hc : oz_co a L k ≤ 5 + 99 * 12 := by
      have := oz_sun_le (g := oz_ga a k) (k := 2) L hw.1
      unfold oz_co
      omega
    have hr : oz_rc a L k ≤ 6 := Nat.min_le_left _ _
    have v1 := oz_v1 V h1
    unfold oz_V1 at v1
    obtain ⟨u1, p1, p2⟩ := c_reachOf V C (by omega) h1 I.2.2.2.1
    have C1 : oz_C u1 10 a := oz_C_fr V C (fun p h1 h2 => p2.1 p (by omega))
    have W1 : oz_LW u1 34 a L := oz_LW_cg I.2.2.2.1 (fun p h1 h2 => p2.1 p (by omega)) rfl rfl (fun _ _ => rfl)
    obtain ⟨u2, r1, r2⟩ := c_costOf V C1 (by omega) h1 W1
    have C2 : oz_C u2 10 a := oz_C_fr V C1 (fun p h1 h2 => r2.1 p (by omega))
    have W2 : oz_LW u2 34 a L := oz_LW_cg W1 (fun p h1 h2 => r2.1 p (by omega)) rfl rfl (fun _ _ => rfl)
    obtain ⟨u3, y1, y2⟩ := c_yieldOf V C2 (by omega) h1 W2
    have f2 : oz_fr (fun p => p = 39) s u2 := oz_fr_tr (oz_fr_mono p2 (by omega)) (oz_fr_mono r2 (by omega))
    have f3 : oz_fr (fun p => p = 39) s u3 := oz_fr_tr f2 (oz_fr_mono y2 (by omega))
    have d1 : ∀ t, f_Mod_isBed (nI k) (oz_md t a) = some true := fun t => m_isBed_t h1 (by omega)
    have w2 : ∀ t : lf_S, lf_w (oz_md t a) 389 0 (2 : Int32) = oz_md (lf_w t 389 0 (nI 2)) a := fun t => oz_md_wo (by omega)
    have frz : ∀ {z t : lf_S}, oz_ak (lf_w z 389 0 (nI 0)) t → oz_fr (fun p => p = 389 ∨ (3 ≤ p ∧ p < 10) ∨ p = 39 ∨ (40 ≤ p ∧ p < 70) ∨ p = 392 ∨ 395 ≤ p) z (lf_w t 389 0 (nI 2)) ∧ ∀ j, j = 3 ∨ j = 6 ∨ j = 8 ∨ j = 12 → (lf_w t 389 0 (nI 2)).1 389 j = z.1 389 j := by
      intro z t h
      refine ⟨oz_fr_tr (oz_fr_w (by omega)) (oz_fr_tr (oz_fr_mono h.1 (by omega)) (oz_fr_w (by omega))), fun j hj => ?_⟩
      rw [oz_w_n (by omega)]
      rcases hj with rfl | rfl | rfl | rfl
      · rw [h.2.1 3 (by omega), oz_w_n (by omega)]
      · rw [h.2.1 6 (by omega), oz_w_n (by omega)]
      · rw [h.2.1 8 (by omega), oz_w_n (by omega)]
      · rw [h.2.2, oz_w_n (by omega)]
    have LWz : ∀ {z : lf_S}, oz_LW z 34 a L → oz_LW (lf_w z 389 0 (nI 0)) 34 a L := fun h => oz_LW_cg h (fun p h1 h2 => oz_w_o (by omega)) rfl rfl (fun _ _ => rfl)
    by_cases c0 : oz_rc a L k = 0
    · refine oz_qI I (fun _ => 2) (R := Sum.inl 4) (s1 := u2) ?_ (oz_kp_fr (oz_fr_mono f2 (by omega))) (fun e he => by cases he; exact ⟨rfl, by omega, by omega⟩) (fun z _ Ix => ?_)
      · unfold f_Main_cut
        rw [c_nBed_t C h1 (by omega), oz_tb_r, p1, Option.bind_some]
        simp only [lf_lt]
        rw [r1, Option.bind_some, c0]
        exact (if_pos (by rw [show (nI 0 ≤ (0 : Int32)) = True from oz_le_t (a := 0) (b := 0) (by omega) (by omega)]; trivial)).trans (by rw [oz_ps0, oz_tb_l])
      · obtain ⟨t, m1, m2, m3, m4⟩ := m_reachA V h1 (LWz Ix.2.2.2.1)
        obtain ⟨z1, z2⟩ := frz m3
        refine ⟨lf_w t 389 0 (nI 2), ?_, oz_w_s, z1, z2⟩
        unfold f_Mod_cut
        rw [oz_bt (d1 z), oz_th0, m1, Option.bind_some]
        simp only [lf_lt]
        rw [c0]
        exact (if_pos (show nI 0 = (0 : Int32) from rfl)).trans (by
          rw [w2]
          exact if_neg (by rw [oz_md_o (by omega), oz_w_s]; exact of_eq_false (oz_le_f (a := 2) (b := 0) (by omega) (by omega))))
    · have n0 : ¬ (nI (oz_rc a L k) ≤ (0 : Int32)) := of_eq_false (oz_le_f (a := oz_rc a L k) (b := 0) (by omega) (by omega))
      have n1 : ¬ (nI (oz_rc a L k) = (0 : Int32)) := of_eq_false ((oz_eq (a := oz_rc a L k) (b := 0) (by omega) (by omega)).trans (eq_false c0))
      by_cases c8 : a 8 < oz_co a L k
      · refine oz_qI I (fun _ => 2) (R := Sum.inl 4) (s1 := u2) ?_ (oz_kp_fr (oz_fr_mono f2 (by omega))) (fun e he => by cases he; exact ⟨rfl, by omega, by omega⟩) (fun z _ Ix => ?_)
        · unfold f_Main_cut
          rw [c_nBed_t C h1 (by omega), oz_tb_r, p1, Option.bind_some]
          simp only [lf_lt]
          rw [r1, Option.bind_some]
          dsimp only
          rw [if_neg n0, oz_C0_8 C2.1, if_pos (by rw [oz_lt_t c8 (by omega)]; trivial), oz_ps0, oz_tb_l]
        · obtain ⟨t, m1, m2, m3, m4⟩ := m_reachA V h1 (LWz Ix.2.2.2.1)
          obtain ⟨z1, z2⟩ := frz m3
          refine ⟨lf_w t 389 0 (nI 2), ?_, oz_w_s, z1, z2⟩
          unfold f_Mod_cut
          rw [oz_bt (d1 z), oz_th0, m1, Option.bind_some]
          simp only [lf_lt]
          rw [if_neg n1, pl_8, oz_ck (by omega) (by omega), oz_md_r, oz_md_o (by omega), m2, if_neg (by rw [oz_le_f c8 (by omega)]; exact id), w2]
          exact if_neg (by rw [oz_md_o (by omega), oz_w_s]; exact of_eq_false (oz_le_f (a := 2) (b := 0) (by omega) (by omega)))
      · obtain ⟨yv, hy⟩ : ∃ y, y = 2 * oz_bed a k 2 := ⟨_, rfl⟩
        obtain ⟨rr, hrr⟩ : ∃ y, y = oz_rc a L k := ⟨_, rfl⟩
        obtain ⟨cc, hcc⟩ : ∃ y, y = oz_co a L k := ⟨_, rfl⟩
        rw [← hrr] at p1 n0 n1 hr c0
        rw [← hcc] at r1 c8 hc
        have hyi : oz_yi a L k = yv := by
          unfold oz_yi
          rw [if_neg (by omega), hy]
        rw [hyi] at y1
        have hst := oz_v5 V (f := rr) (by omega) hr
        have V1 : oz_V (oz_up a 8 (a 8 - cc)) := oz_V_up V (by omega)
        have V2 : oz_V (oz_up (oz_up a 8 (a 8 - cc)) (13 + 4 * k + 1) 0) := oz_V_bd V1 (by rw [oz_up_n (by omega)]; exact h1) (Or.inl rfl) (by omega)
        have e8 : oz_sto (oz_up (oz_up a 8 (a 8 - cc)) (13 + 4 * k + 1) 0) rr = oz_sto a rr := by
          unfold oz_sto
          rw [oz_up_n (by omega), oz_up_n (by omega)]
        have V3 : oz_V (oz_up (oz_up (oz_up a 8 (a 8 - cc)) (13 + 4 * k + 1) 0) (37 + rr - 1) (min (oz_sto a rr + yv) 9999)) := oz_V_sto V2 (by omega) hr (by omega)
        have VL := oz_logs_V V3 (w := k) (x := 0) (n := yv) (by omega) (by omega) (by omega)
        have lo : ∀ j, j < 7 ∨ 366 ≤ j → oz_logs (oz_up (oz_up (oz_up a 8 (a 8 - cc)) (13 + 4 * k + 1) 0) (37 + rr - 1) (min (oz_sto a rr + yv) 9999)) k 0 yv j = a j := fun j hj => by
          rw [oz_logs_eqr (lo := j) (hi := j + 1) (by omega) (by omega) j (by omega) (by omega), oz_up_n (by omega), oz_up_n (by omega), oz_up_n (by omega)]
        have I3 := oz_I_kp I (oz_kp_fr (oz_fr_mono f3 (by omega)))
        refine oz_act I3 (v := nI yv) VL (lo 1 (by omega)) (lo 2 (by omega)) (fun j hj => lo j (by omega)) (fun t1 k1 k2 k3 => ?_) (fun z Pz Wz => ?_)
        · have C3 := oz_C_num V k2 (k := 8) (i := 8) (v := a 8 - cc) (by omega)
          have C4 : oz_C (lf_w (lf_w t1 10 8 (nI (a 8 - cc))) ((10 + 1) + 2) k (nI 0)) 10 (oz_up (oz_up a 8 (a 8 - cc)) (13 + 4 * k + 1) 0) := oz_C_bd V1 C3 (k := k) (w := 1) (v := 0) (by rw [oz_up_n (by omega)]; exact h1) (by omega)
          have C5 := oz_C_sto V2 C4 (f := rr) (v := min (oz_sto a rr + yv) 9999) (by omega) hr
          obtain ⟨t5, l1, l2, l3⟩ := c_logadd V3 C5.2.2.2.2.2.1 (w := k) (x := 0) (n := yv)
          refine ⟨t5, ?_, ?_, oz_fr_tr (oz_fr_w (by omega)) (oz_fr_tr (oz_fr_w (by omega)) (oz_fr_tr (oz_fr_w (by omega)) (oz_fr_mono l3 (by omega))))⟩
          · have e9 := oz_C0_9 C5.1
            unfold f_Main_cut
            rw [c_nBed_t C h1 (by omega), oz_tb_r, p1, Option.bind_some]
            simp only [lf_lt]
            rw [r1, Option.bind_some]
            dsimp only
            rw [if_neg n0, oz_C0_8 C2.1, if_neg (by rw [oz_lt_f (by omega) (by omega)]; exact id), oz_ps1, oz_tb_r, y1, Option.bind_some]
            dsimp only
            rw [k1, Option.bind_some, oz_C0_8 k2.1, oz_sub (by omega), oz_ck (by omega) (by omega), oz_ck (by omega) (by omega), show (0 : Int32) = nI 0 from rfl, oz_C_S C4 rr (by omega) hr, e8, nI_add, pl_9999, oz_mn (by omega) (by omega), oz_ck (by omega) (by omega), e9, l1, Option.bind_some]
          · refine ⟨oz_C0_cg C5.1 (l3.1 10 (by omega)) (oz_logs_lo (by omega)) (oz_logs_eqr (by omega) (by omega)) oz_logs_12, oz_CB_cg V3 (oz_C_B C5) (fun p h1 h2 => l3.1 p (by omega)) (oz_logs_lo (by omega)) (oz_logs_eqr (by omega) (by omega)), oz_CK_cg V3 (oz_C_K C5) (fun p h1 h2 => l3.1 p (by omega)) (oz_logs_lo (by omega)) (oz_logs_eqr (by omega) (by omega)), oz_CH_cg V3 (oz_C_H C5) (fun p h1 h2 => l3.1 p (by omega)) (oz_logs_lo (by omega)) (oz_logs_eqr (by omega) (by omega)), oz_CO_cg V3 (oz_C_O C5) (fun p h1 h2 => l3.1 p (by omega)) (oz_logs_lo (by omega)) (oz_logs_eqr (by omega) (by omega)), l2, oz_CS_cg (oz_C_S C5) (l3.1 (10 + 23) (by omega)) (oz_logs_eqr (by omega) (by omega))⟩
        · obtain ⟨t0, m1, m2, m3, m4⟩ := m_reachA V h1 (LWz Wz)
          have P0 : oz_PM t0 n E := oz_PM_fr Pz (by rw [m3.2.1 6 (by omega), oz_w_n (by omega)]) (by rw [m3.1.1 393 (by omega), oz_w_o (by omega)])
          rw [← hrr] at m1
          rw [← hcc] at m2
          obtain ⟨t, g1, g2, g3, g4, g5⟩ := oz_sets0 (a := a) P0 (k := 8) (v := a 8 - cc) (by omega)
          have g6 : ∀ j, j = 3 ∨ j = 8 ∨ j = 12 → t.1 389 j = z.1 389 j := fun j hj => by
            rw [g5 j (by omega) (by omega)]
            rcases hj with rfl | rfl | rfl
            · rw [m3.2.1 3 (by omega), oz_w_n (by omega)]
            · rw [m3.2.1 8 (by omega), oz_w_n (by omega)]
            · rw [m3.2.2, oz_w_n (by omega)]
          refine ⟨t, ?_, g2, g3, oz_fr_tr (oz_fr_w (by omega)) (oz_fr_tr (oz_fr_mono m3.1 (by omega)) (oz_frk g4)), g6⟩
          unfold f_Mod_cut
          rw [oz_bt (d1 z), oz_th0, m1, Option.bind_some]
          simp only [lf_lt]
          have w0 : ∀ t : lf_S, lf_w (oz_md t a) 389 0 (0 : Int32) = oz_md (lf_w t 389 0 (nI 0)) a := fun t => oz_md_wo (by omega)
          have z0 : (oz_md (lf_w t0 389 0 (nI 0)) a).1 389 0 ≤ 0 := by
            rw [oz_md_o (by omega), oz_w_s]
            exact of_eq_true (oz_le_t (a := 0) (b := 0) (by omega) (by omega))
          have z16 : (oz_md (lf_w t0 389 0 (nI 0)) a).1 389 16 = nI cc := by
            rw [oz_md_o (by omega), oz_w_n (by omega)]
            exact m2
          have ecc : oz_sto (oz_up a 8 (a 8 - cc)) rr = oz_sto a rr := oz_up_n (by omega)
          have eup : oz_up (oz_up (oz_up a 8 (a 8 - cc)) (37 + rr - 1) (min (oz_sto a rr + yv) 9999)) (13 + 4 * k + 1) 0 = oz_up (oz_up (oz_up a 8 (a 8 - cc)) (13 + 4 * k + 1) 0) (37 + rr - 1) (min (oz_sto a rr + yv) 9999) := oz_up_cm (by omega)
          rw [if_neg n1, pl_8, oz_ck (by omega) (by omega), oz_md_r, oz_md_o (by omega), m2, if_pos (by rw [oz_le_t (by omega) (by omega)]; trivial), w0, if_pos z0, show f_Mod_ofBed (nI k) (2 : Int32) (oz_md (lf_w t0 389 0 (nI 0)) a) = some (nI (oz_bed a k 2)) from m_ofBed (w := 2) (by omega) (by omega), Option.bind_some, oz_ck (by omega) (by omega), oz_md_r, z16, oz_sub (by omega), g1, Option.bind_some]
          dsimp only
          rw [m_stored (by omega) hr, ecc, Option.bind_some, pl_2, pk_mul, ← hy, nI_add, pl_9999, m_lesser (by omega) (by omega), Option.bind_some, show (37 : Int32) = nI 37 from rfl, nI_add, pl_1, oz_sub (by omega), oz_ck (by omega) (by omega), Nat.min_comm, oz_md_w, pl_13, pl_4, pk_mul, nI_add, nI_add, oz_ck (by omega) (by omega), show (0 : Int32) = nI 0 from rfl, oz_md_w, eup, m_logs V3, Option.bind_some]
  · refine oz_ql I (e := 3) (k := 1) (s1 := s) ?_ oz_kp_rf rfl (by omega) (by omega) (fun z Ix => ?_)
    · unfold f_Main_cut
      rw [c_nBed_f C h1, oz_tb_l]
    · unfold f_Mod_cut
      rw [oz_bf (m_isBed_f h1), oz_th1]
end
