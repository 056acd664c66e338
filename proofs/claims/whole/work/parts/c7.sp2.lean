/-! ===== the cases with their own shape, 2 ===== -/
section
variable {s : lf_S} {a : Nat → Nat} {L : List (Nat × Nat × List Nat)} {n o : Nat} {E : Nat → Nat → Nat} {T : Nat → Nat} {len : Nat}
theorem q_years (I : oz_I s a L n o E T len) (x : Int32) : oz_An oz_H0 (f_Main_years x s) (f_Mod_years x) := by
  have V := oz_IV I
  rcases oz_isr x 1 60 (by omega) (by omega) with ⟨k, h0, h1, rfl, _⟩ | ⟨h1, _⟩
  · have vv := oz_yrs_V (fun a V => oz_yr_V V) V k
    refine oz_act I (v := nI (oz_yrs oz_yr a k).1) (a' := (oz_yrs oz_yr a k).2) vv.1 (vv.2.2 1 (by omega)) (vv.2.2 2 (by omega)) (fun j hj => oz_yr_hi V k j hj) (fun t1 k1 k2 k3 => ?_) (fun z Pz _ => ?_)
    · obtain ⟨t2, l1, l2, l3⟩ := c_passYears V k2 h1
      refine ⟨t2, ?_, l2, oz_fr_mono l3 (by omega)⟩
      unfold f_Main_years
      rw [pl_1, pl_60, c_needWithin_t h0 h1 (by omega), oz_tb_r, k1, Option.bind_some, l1, Option.bind_some]
    · obtain ⟨t, g1, g2, g3, g4, g5⟩ := oz_rem0 (s := z) (a := a) Pz
      refine ⟨t, ?_, g2, g3, oz_frk g4, fun j hj => g5 j (by omega) (by omega)⟩
      have hg := m_goes (s := t) (d := 1) (f := oz_yr) (fun a V => oz_yr_V V) (fun s a V => m_passes1 V) V h1
      unfold f_Mod_years
      rw [pl_60, oz_bt (show f_Mod_isIn (nI k) (1 : Int32) (nI 60) = some true from m_isIn_t h0 h1 (by omega)), oz_th0, g1, Option.bind_some, pl_1, hg, Option.bind_some]
  · refine oz_ql I (e := 0) (k := 1) (s1 := s) ?_ oz_kp_rf rfl (by omega) (by omega) (fun z Ix => ?_)
    · unfold f_Main_years
      rw [pl_1, pl_60, c_needWithin_f h1, oz_tb_l]
    · unfold f_Mod_years
      rw [pl_60, oz_bf (show f_Mod_isIn x (1 : Int32) (nI 60) = some false from m_isIn_o h1), oz_th1]
/-- an act that answers nothing -/
theorem k_drop (I : oz_I s a L n o E T len) (x : Int32) : ∃ t, f_case_18 x s = some t ∧ oz_Inv t := by
  have V := oz_IV I
  have C := oz_IC I
  have hv := oz_V6 V
  have fin : ∀ {k : Nat} {s1 : lf_S} {e : Nat}, f_Main_drop x s = some (Sum.inl e, s1) → oz_H34 e = some (nI k) → f_Mod_drop x s1 = some (oz_md (lf_w s1 389 0 (nI k)) a) → s1 = s → ∃ t, f_case_18 x s = some t ∧ oz_Inv t := by
    intro k s1 e h1 h2 h3 h4
    subst h4
    refine ⟨oz_md (lf_w s1 389 0 (nI k)) a, ?_, oz_Inv_kp I (oz_kp_md I.1 (oz_fr_w (by omega)) (fun j hj => oz_w_n (by omega)))⟩
    have e1 : f_Lw_drop x s1 = some (nI k, s1) := by
      unfold f_Lw_drop
      rw [h1]
      show (oz_H34 e).map (fun k => (k, s1)) = _
      rw [h2]
      rfl
    unfold f_case_18
    rw [e1, Option.bind_some]
    simp only [lf_lt]
    rw [h3, Option.bind_some]
    show (if (oz_md (lf_w s1 389 0 (nI k)) a).1 389 0 = nI k then some (oz_md (lf_w s1 389 0 (nI k)) a) else none) = _
    rw [if_pos oz_t389]
  have w0 : ∀ (t : lf_S) (k : Nat), lf_w (oz_md t a) 389 0 (nI k) = oz_md (lf_w t 389 0 (nI k)) a := fun t k => oz_md_wo (by omega)
  have ww : ∀ (t : lf_S) (u v : Int32), lf_w (lf_w t 389 0 u) 389 0 v = lf_w t 389 0 v := fun t u v => oz_w_w
  have z0 : ∀ t : lf_S, (oz_md (lf_w t 389 0 (nI 0)) a).1 389 0 ≤ nI 0 := fun t => by
    rw [oz_md_o (by omega), oz_w_s]
    exact of_eq_true (oz_le_t (a := 0) (b := 0) (by omega) (by omega))
  have z1 : ∀ t : lf_S, ¬ (oz_md (lf_w t 389 0 (nI 1)) a).1 389 0 ≤ 0 := fun t => by
    rw [oz_md_o (by omega), oz_w_s]
    exact of_eq_false (oz_le_f (a := 1) (b := 0) (by omega) (by omega))
  have z2 : ∀ t : lf_S, ¬ (oz_md (lf_w t 389 0 (nI 2)) a).1 389 0 ≤ nI 0 := fun t => by
    rw [oz_md_o (by omega), oz_w_s]
    exact of_eq_false (oz_le_f (a := 2) (b := 0) (by omega) (by omega))
  rcases oz_isix x (a 6) (by omega) with ⟨k, h1, rfl, _⟩ | ⟨h1, _⟩
  · have v4 := oz_v4 V h1
    unfold oz_V4 at v4
    have d1 : ∀ t, f_Mod_isOrder (nI k) (oz_md t a) = some true := fun t => m_isOrder_t h1 (by omega)
    have d2 : ∀ t, f_Mod_ofOrder (nI k) (2 : Int32) (oz_md t a) = some (nI (oz_ord a k 2)) := fun t => m_ofOrder (w := 2) (by omega) (by omega)
    have ci := c_isOpen V C.2.2.2.2.1 h1
    by_cases c2 : oz_ord a k 2 = 0
    · have ho : oz_opn a k = false := by unfold oz_opn; rw [c2]; rfl
      refine fin (k := 2) (e := 4) (s1 := s) ?_ rfl ?_ rfl
      · unfold f_Main_drop
        rw [c_nOrd_t C h1 (by omega), oz_tb_r, ci, Option.bind_some, ho, show lf_i false = (0 : Int32) from rfl, oz_ps0, oz_tb_l]
      · conv => lhs; rw [I.1]
        unfold f_Mod_drop
        rw [oz_bt (d1 s)]
        simp only [lf_lt]
        rw [pl_0, w0, if_pos (z0 s), d2, Option.bind_some, c2, if_pos rfl, show (2 : Int32) = nI 2 from rfl, w0, ww, if_neg (z2 s)]
    · have ho : oz_opn a k = true := by unfold oz_opn; rw [show oz_ord a k 2 = 1 by omega]; rfl
      obtain ⟨t1, o', k1, k2, k3, k4⟩ := c_remember V C (fun i hi => (I.2.2.2.2.2.2.2.2.1 i hi).1) I.2.2.2.2.2.2.1
      have C1 : oz_C t1 10 a := oz_C_fr V C (fun p p1 p2 => k3.1 p (by omega))
      have V2 : oz_V (oz_up a (108 + 3 * k + 2) 0) := oz_V_opn V h1 (by omega)
      obtain ⟨s3, l1, l2, l3⟩ := c_shut V (oz_C_O C1) h1 (oz_up a (108 + 3 * k + 2) 0) (oz_up_n (by omega)) (fun i w hi hw => oz_ord_up (by omega) hw)
      have C3 : oz_C s3 10 (oz_up a (108 + 3 * k + 2) 0) := ⟨oz_C0_cg C1.1 (l3.1 10 (by omega)) (oz_up_n (by omega)) (oz_eqr_up oz_eqr_rf (by omega)) (oz_up_n (by omega)), oz_CB_cg V (oz_C_B C1) (fun p h1 h2 => l3.1 p (by omega)) (oz_up_n (by omega)) (oz_eqr_up oz_eqr_rf (by omega)), oz_CK_cg V (oz_C_K C1) (fun p h1 h2 => l3.1 p (by omega)) (oz_up_n (by omega)) (oz_eqr_up oz_eqr_rf (by omega)), oz_CH_cg V (oz_C_H C1) (fun p h1 h2 => l3.1 p (by omega)) (oz_up_n (by omega)) (oz_eqr_up oz_eqr_rf (by omega)), l2, oz_CL_cg V (oz_C_L C1) (fun p h1 h2 => l3.1 p (by omega)) (oz_up_n (by omega)) (oz_eqr_up oz_eqr_rf (by omega)), oz_CS_cg (oz_C_S C1) (l3.1 (10 + 23) (by omega)) (oz_eqr_up oz_eqr_rf (by omega))⟩
      obtain ⟨x1, x2, x3, x4⟩ := oz_actI I V2 (oz_up_n (by omega)) (oz_up_n (by omega)) (fun j hj => oz_up_n (by omega)) k2 k3 (k4 11 (by omega) (by omega)) C3 (oz_fr_mono l3 (by omega)) (x := s3) rfl
      obtain ⟨t, g1, g2, g3, g4, g5⟩ := oz_sets0 (s := lf_w s3 389 0 (nI 0)) (a := a) (oz_PM_fr x2 (oz_w_n (by omega)) (oz_w_o (by omega))) (k := 108 + 3 * k + 2) (v := 0) (by omega)
      refine ⟨oz_md t (oz_up a (108 + 3 * k + 2) 0), ?_, x4 t g3 (oz_fr_tr (oz_fr_w (by omega)) (oz_frk g4)) (fun j hj => by rw [g5 j (by omega) (by omega), oz_w_n (by omega)])⟩
      have e1 : f_Lw_drop (nI k) s = some (nI 0, s3) := by
        unfold f_Lw_drop f_Main_drop
        rw [c_nOrd_t C h1 (by omega), oz_tb_r, ci, Option.bind_some, ho, show lf_i true = (1 : Int32) from rfl, oz_ps1, oz_tb_r, k1, Option.bind_some, l1, Option.bind_some]
        rfl
      have e2 : f_Mod_drop (nI k) s3 = some (oz_md t (oz_up a (108 + 3 * k + 2) 0)) := by
        conv => lhs; rw [x1]
        unfold f_Mod_drop
        rw [oz_bt (d1 s3)]
        simp only [lf_lt]
        rw [pl_0, w0, if_pos (z0 s3), d2, Option.bind_some, if_neg (by rw [oz_eq (by omega) (by omega)]; exact c2), w0, if_pos (z0 (lf_w s3 389 0 (nI 0))), show ((108 : Int32) + ((3 : Int32) * nI k)) + (2 : Int32) = nI (108 + 3 * k + 2) by rw [show (108 : Int32) = nI 108 from rfl, pl_3, pl_2, pk_mul, nI_add, nI_add], g1, Option.bind_some]
      unfold f_case_18
      rw [e1, Option.bind_some]
      simp only [lf_lt]
      rw [e2, Option.bind_some]
      show (if t.1 389 0 = nI 0 then some (oz_md t (oz_up a (108 + 3 * k + 2) 0)) else none) = _
      rw [if_pos g2]
  · refine fin (k := 1) (e := 3) (s1 := s) ?_ rfl ?_ rfl
    · unfold f_Main_drop
      rw [c_nOrd_f C h1, oz_tb_l]
    · conv => lhs; rw [I.1]
      unfold f_Mod_drop
      rw [oz_bf (m_isOrder_f h1)]
      simp only [lf_lt]
      rw [pl_1, w0, if_neg (z1 s)]
end
