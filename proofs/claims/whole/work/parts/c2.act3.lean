/-! ===== acts, 3 ===== -/
section
variable {s : lf_S} {a a' : Nat → Nat} {L : List (Nat × Nat × List Nat)} {n o : Nat} {E : Nat → Nat → Nat} {T : Nat → Nat} {len : Nat}
theorem q_drain (I : oz_I s a L n o E T len) (x y : Int32) : oz_An oz_H30 (f_Main_drain x y s) (f_Mod_drain x y) := by
  have V := oz_IV I
  have C := oz_IC I
  have hv := oz_V6 V
  rcases oz_isix x (a 3) (by omega) with ⟨k, h1, rfl, _⟩ | ⟨h1, _⟩
  · rcases oz_isr y 0 9 (by omega) (by omega) with ⟨m, m1, m2, rfl, _⟩ | ⟨m1, _⟩
    · refine oz_act I (v := nI (oz_bed a k 3)) (a' := oz_up a (13 + 4 * k + 3) m) (oz_V_bd V h1 (Or.inr rfl) m2) (oz_up_n (by omega)) (oz_up_n (by omega)) (fun j hj => oz_up_n (by omega)) (fun t1 k1 k2 k3 => ?_) (fun z Pz _ => ?_)
      · refine ⟨_, ?_, oz_C_bd V k2 h1 (w := 3) (v := m) (by omega), oz_fr_w (by omega)⟩
        unfold f_Main_drain
        rw [c_nBed_t C h1 (by omega), oz_tb_r, show f_Main_needWithin (nI m) (0 : Int32) (9 : Int32) s = some (Sum.inr (), s) from c_needWithin_t (l := 0) (h := 9) (by omega) m2 (by omega), oz_tb_r, k1, Option.bind_some, oz_ck (by omega) (by omega), (k2.2.1.2 k h1).2.2.2]
        simp only [lf_lt]
        rw [oz_ck (by omega) (by omega)]
      · obtain ⟨t, g1, g2, g3, g4, g5⟩ := oz_sets0 (a := a) Pz (k := 13 + 4 * k + 3) (v := m) (by omega)
        refine ⟨t, ?_, g2, g3, oz_frk g4, fun j hj => g5 j (by omega) (by omega)⟩
        unfold f_Mod_drain
        rw [oz_bt (m_isBed_t h1 (by omega)), oz_bt (show f_Mod_isIn (nI m) (0 : Int32) (9 : Int32) = some true from m_isIn_t (l := 0) (h := 9) (by omega) m2 (by omega)), oz_th0, show ((13 : Int32) + ((4 : Int32) * nI k)) + (3 : Int32) = nI (13 + 4 * k + 3) by rw [pl_13, pl_4, pl_3, pk_mul, nI_add, nI_add], g1, Option.bind_some]
        rfl
    · refine oz_ql I (e := 0) (k := 2) (s1 := s) ?_ oz_kp_rf rfl (by omega) (by omega) (fun z Ix => ?_)
      · unfold f_Main_drain
        rw [c_nBed_t C h1 (by omega), oz_tb_r, show f_Main_needWithin y (0 : Int32) (9 : Int32) s = some (Sum.inl 0, s) from c_needWithin_f m1, oz_tb_l]
      · unfold f_Mod_drain
        rw [oz_bt (m_isBed_t h1 (by omega)), oz_bf (show f_Mod_isIn y (0 : Int32) (9 : Int32) = some false from m_isIn_o m1), oz_th2]
  · refine oz_ql I (e := 3) (k := 1) (s1 := s) ?_ oz_kp_rf rfl (by omega) (by omega) (fun z Ix => ?_)
    · unfold f_Main_drain
      rw [c_nBed_f C h1, oz_tb_l]
    · unfold f_Mod_drain
      rw [oz_bf (m_isBed_f h1), oz_th1]
theorem q_hire (I : oz_I s a L n o E T len) (x y : Int32) : oz_An oz_H04 (f_Main_hire x y s) (f_Mod_hire x y) := by
  have V := oz_IV I
  have C := oz_IC I
  have hv := oz_V6 V
  rcases oz_isr x 1 9 (by omega) (by omega) with ⟨k, h1, h2, rfl, _⟩ | ⟨h1, _⟩
  · have d1 : f_Mod_isIn (nI k) (1 : Int32) (9 : Int32) = some true := m_isIn_t (l := 1) (h := 9) h1 h2 (by omega)
    have c1 : f_Main_needWithin (nI k) (1 : Int32) (9 : Int32) s = some (Sum.inr (), s) := c_needWithin_t (l := 1) (h := 9) h1 h2 (by omega)
    rcases oz_isr y 0 99 (by omega) (by omega) with ⟨m, m1, m2, rfl, _⟩ | ⟨m1, _⟩
    · have d2 : f_Mod_isIn (nI m) (0 : Int32) (99 : Int32) = some true := m_isIn_t (l := 0) (h := 99) m1 m2 (by omega)
      have c2 : f_Main_needWithin (nI m) (0 : Int32) (99 : Int32) s = some (Sum.inr (), s) := c_needWithin_t (l := 0) (h := 99) m1 m2 (by omega)
      have hd : s.1 (10 + 15) 0 = nI (a 5) := C.2.2.2.1.1
      by_cases c : a 5 = 5
      · refine oz_ql I (e := 4) (k := 2) (s1 := s) ?_ oz_kp_rf rfl (by omega) (by omega) (fun z Ix => ?_)
        · unfold f_Main_hire
          rw [c1, oz_tb_r, c2, oz_tb_r, hd, pl_5, if_pos (by rw [oz_le_t (by omega) (by omega)]; trivial), oz_ps0, oz_tb_l]
        · unfold f_Mod_hire
          rw [oz_bt d1, oz_bt d2, pl_5, oz_ck (by omega) (by omega), oz_md_r, if_pos (by rw [c]), oz_th2]
      · refine oz_act I (v := nI (a 5)) (a' := oz_hdu a (k, m)) (oz_V_hdu V (by omega) h1 h2 m2) (oz_hdu_o (by omega) (by omega)) (oz_hdu_o (by omega) (by omega)) (fun j hj => oz_hdu_o (by omega) (by omega)) (fun t1 k1 k2 k3 => ?_) (fun z Pz _ => ?_)
        · refine ⟨oz_hdw t1 (10 + 15) (a 5) (k, m), ?_, oz_C_hdu V k2 (by omega) (v := (k, m)) (by omega) oz_fr_rf, ?_⟩
          · unfold f_Main_hire
            rw [c1, oz_tb_r, c2, oz_tb_r, hd, pl_5, if_neg (by rw [oz_le_f (by omega) (by omega)]; exact id), oz_ps1, oz_tb_r, k1, Option.bind_some, c_handsAdd (by omega) k2.2.2.2.1.1, Option.bind_some, show (oz_hdw t1 (10 + 15) (a 5) (k, m)).1 (10 + 15) 0 = nI (a 5 + 1) from oz_w_s, pl_1, oz_sub (by omega), Nat.add_sub_cancel]
          · exact oz_fr_tr (oz_fr_w (by omega)) (oz_fr_tr (oz_fr_w (by omega)) (oz_fr_w (by omega)))
        · obtain ⟨t, g1, g2, g3, g4, g5⟩ := oz_rem0 (s := z) (a := a) Pz
          refine ⟨t, ?_, g2, g3, oz_frk g4, fun j hj => g5 j (by omega) (by omega)⟩
          have e5 : oz_up a (98 + 2 * a 5) k 5 = a 5 := oz_up_n (by omega)
          have e6 : oz_up (oz_up a (98 + 2 * a 5) k) (98 + 2 * a 5 + 1) m 5 = a 5 := by rw [oz_up_n (by omega)]; exact e5
          unfold f_Mod_hire
          rw [oz_bt d1, oz_bt d2, pl_5, oz_ck (by omega) (by omega), oz_md_r, if_neg (by rw [oz_eq (by omega) (by omega)]; exact c), oz_th0, g1, Option.bind_some]
          unfold f_Mod_hires
          rw [show (98 : Int32) = nI 98 from rfl, pl_5, oz_ck (by omega) (by omega), oz_md_r, pl_2, pk_mul, nI_add, oz_ck (by omega) (by omega)]
          simp only [lf_lt]
          rw [oz_md_w, oz_ck (by omega) (by omega), oz_md_r, e5, pk_mul, nI_add, pl_1, nI_add, oz_ck (by omega) (by omega), oz_md_w, oz_ck (by omega) (by omega), oz_ck (by omega) (by omega), oz_md_r, e6, nI_add, oz_md_w, Option.bind_some, oz_ck (by omega) (by omega), oz_md_r, oz_up_s, oz_sub (by omega), Nat.add_sub_cancel]
          rfl
    · refine oz_ql I (e := 0) (k := 1) (s1 := s) ?_ oz_kp_rf rfl (by omega) (by omega) (fun z Ix => ?_)
      · unfold f_Main_hire
        rw [c1, oz_tb_r, show f_Main_needWithin y (0 : Int32) (99 : Int32) s = some (Sum.inl 0, s) from c_needWithin_f m1, oz_tb_l]
      · unfold f_Mod_hire
        rw [oz_bt d1, oz_bf (show f_Mod_isIn y (0 : Int32) (99 : Int32) = some false from m_isIn_o m1), oz_th1]
  · refine oz_ql I (e := 0) (k := 1) (s1 := s) ?_ oz_kp_rf rfl (by omega) (by omega) (fun z Ix => ?_)
    · unfold f_Main_hire
      rw [show f_Main_needWithin x (1 : Int32) (9 : Int32) s = some (Sum.inl 0, s) from c_needWithin_f h1, oz_tb_l]
    · unfold f_Mod_hire
      rw [oz_bf (show f_Mod_isIn x (1 : Int32) (9 : Int32) = some false from m_isIn_o h1), oz_th1]
theorem q_take (I : oz_I s a L n o E T len) (x y : Int32) : oz_An oz_H304 (f_Main_take x y s) (f_Mod_take x y) := by
  have V := oz_IV I
  have C := oz_IC I
  have hv := oz_V6 V
  rcases oz_isix x (a 4) (by omega) with ⟨k, h1, rfl, _⟩ | ⟨h1, _⟩
  · rcases oz_isr y 1 9 (by omega) (by omega) with ⟨m, m1, m2, rfl, _⟩ | ⟨m1, _⟩
    · have d2 : f_Mod_isIn (nI m) (1 : Int32) (9 : Int32) = some true := m_isIn_t (l := 1) (h := 9) m1 m2 (by omega)
      have c2 : f_Main_needWithin (nI m) (1 : Int32) (9 : Int32) s = some (Sum.inr (), s) := c_needWithin_t (l := 1) (h := 9) m1 m2 (by omega)
      have hd : s.1 (10 + 18) 0 = nI (a 6) := C.2.2.2.2.1.1
      by_cases c : a 6 = 6
      · refine oz_ql I (e := 4) (k := 3) (s1 := s) ?_ oz_kp_rf rfl (by omega) (by omega) (fun z Ix => ?_)
        · unfold f_Main_take
          rw [c_needBasket_t C h1 (by omega), oz_tb_r, c2, oz_tb_r, hd, pl_6, if_pos (by rw [oz_le_t (by omega) (by omega)]; trivial), oz_ps0, oz_tb_l]
        · unfold f_Mod_take
          rw [oz_bt (m_isBasket_t h1 (by omega)), oz_bt d2, pl_6, oz_ck (by omega) (by omega), oz_md_r, if_pos (by rw [c]), oz_th3]
      · refine oz_act I (v := nI (a 6)) (a' := oz_odu a (k, m)) (oz_V_odu V (by omega) h1 m1 m2) (oz_odu_o (by omega) (by omega)) (oz_odu_o (by omega) (by omega)) (fun j hj => oz_odu_o (by omega) (by omega)) (fun t1 k1 k2 k3 => ?_) (fun z Pz _ => ?_)
        · refine ⟨oz_odw t1 (10 + 18) (a 6) (oz_opens a) (k, m), ?_, oz_C_odu V k2 (by omega) (v := (k, m)) (by omega) oz_fr_rf, ?_⟩
          · unfold f_Main_take
            rw [c_needBasket_t C h1 (by omega), oz_tb_r, c2, oz_tb_r, hd, pl_6, if_neg (by rw [oz_le_f (by omega) (by omega)]; exact id), oz_ps1, oz_tb_r, k1, Option.bind_some, c_ordersAdd (by omega) k2.2.2.2.2.1.1 k2.2.2.2.2.1.2.1 (oz_opens_lt V), Option.bind_some, show (oz_odw t1 (10 + 18) (a 6) (oz_opens a) (k, m)).1 (10 + 18) 0 = nI (a 6 + 1) from oz_w_s, pl_1, oz_sub (by omega), Nat.add_sub_cancel]
          · exact oz_fr_tr (oz_fr_w (by omega)) (oz_fr_tr (oz_fr_w (by omega)) (oz_fr_tr (oz_fr_w (by omega)) (oz_fr_w (by omega))))
        · obtain ⟨t, g1, g2, g3, g4, g5⟩ := oz_rem0 (s := z) (a := a) Pz
          refine ⟨t, ?_, g2, g3, oz_frk g4, fun j hj => g5 j (by omega) (by omega)⟩
          have e6 : oz_up (oz_up (oz_up a (108 + 3 * a 6 + 0) k) (108 + 3 * a 6 + 1) m) (108 + 3 * a 6 + 2) 1 6 = a 6 := by rw [oz_up_n (by omega), oz_up_n (by omega), oz_up_n (by omega)]
          unfold f_Mod_take
          rw [oz_bt (m_isBasket_t h1 (by omega)), oz_bt d2, pl_6, oz_ck (by omega) (by omega), oz_md_r, if_neg (by rw [oz_eq (by omega) (by omega)]; exact c), oz_th0, g1, Option.bind_some]
          unfold f_Mod_takes
          rw [show (108 : Int32) = nI 108 from rfl, pl_6, oz_ck (by omega) (by omega), oz_md_r, pl_3, pk_mul, nI_add]
          simp only [lf_lt]
          rw [show (0 : Int32) = nI 0 from rfl, nI_add, oz_ck (by omega) (by omega), oz_md_w, pl_1, nI_add, oz_ck (by omega) (by omega), oz_md_w, pl_2, nI_add, oz_ck (by omega) (by omega), oz_md_w, oz_ck (by omega) (by omega), oz_ck (by omega) (by omega), oz_md_r, e6, nI_add, oz_md_w, Option.bind_some, oz_ck (by omega) (by omega), oz_md_r, oz_up_s, oz_sub (by omega), Nat.add_sub_cancel]
          rfl
    · refine oz_ql I (e := 0) (k := 2) (s1 := s) ?_ oz_kp_rf rfl (by omega) (by omega) (fun z Ix => ?_)
      · unfold f_Main_take
        rw [c_needBasket_t C h1 (by omega), oz_tb_r, show f_Main_needWithin y (1 : Int32) (9 : Int32) s = some (Sum.inl 0, s) from c_needWithin_f m1, oz_tb_l]
      · unfold f_Mod_take
        rw [oz_bt (m_isBasket_t h1 (by omega)), oz_bf (show f_Mod_isIn y (1 : Int32) (9 : Int32) = some false from m_isIn_o m1), oz_th2]
  · refine oz_ql I (e := 3) (k := 1) (s1 := s) ?_ oz_kp_rf rfl (by omega) (by omega) (fun z Ix => ?_)
    · unfold f_Main_take
      rw [c_needBasket_f C h1, oz_tb_l]
    · unfold f_Mod_take
      rw [oz_bf (m_isBasket_f h1), oz_th1]
end
