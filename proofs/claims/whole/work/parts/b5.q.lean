/-! ===== more queries answered ===== -/
section
variable {s : lf_S} {a : Nat → Nat} {L : List (Nat × Nat × List Nat)} {n o : Nat} {E : Nat → Nat → Nat} {T : Nat → Nat} {len : Nat}
def oz_ak (s t : lf_S) : Prop := oz_fr (fun p => p = 389 ∨ p = 395) s t ∧ (∀ j, j < 9 → t.1 389 j = s.1 389 j) ∧ t.1 389 12 = s.1 389 12
theorem oz_ak_rf : oz_ak s s := ⟨oz_fr_rf, fun _ _ => rfl, rfl⟩
theorem oz_ak_tr {t u : lf_S} (h : oz_ak s t) (k : oz_ak t u) : oz_ak s u := ⟨oz_fr_tr h.1 k.1, fun j hj => (k.2.1 j hj).trans (h.2.1 j hj), k.2.2.trans h.2.2⟩
theorem m_asksA {i : Nat} (V : oz_V a) (hi : i < a 3) (W : oz_LW s 34 a L) : ∃ t, f_Mod_asks (nI i) (oz_md s a) = some (oz_md t a) ∧ t.1 389 15 = nI (oz_rc a L i) ∧ t.1 389 16 = nI (oz_co a L i) ∧ oz_ak s t ∧ oz_LW t 34 a L := by
  obtain ⟨t, k1, k2, k3, k4, k5, k6⟩ := m_asks V hi W
  exact ⟨t, k1, k2, k3, ⟨k5, k6, k4⟩, oz_LW_cg W (fun p p1 p2 => k5.1 p (by omega)) rfl rfl (fun _ _ => rfl)⟩
theorem m_reachA {i : Nat} (V : oz_V a) (hi : i < a 3) (W : oz_LW s 34 a L) : ∃ t, f_Mod_reachOf (nI i) (oz_md s a) = some (nI (oz_rc a L i), oz_md t a) ∧ t.1 389 16 = nI (oz_co a L i) ∧ oz_ak s t ∧ oz_LW t 34 a L := by
  obtain ⟨t, k1, k2, k3, k4, k5⟩ := m_asksA V hi W
  refine ⟨t, ?_, k3, k4, k5⟩
  unfold f_Mod_reachOf
  rw [k1, Option.bind_some, oz_md_o (by omega), k2]
theorem m_yieldA {i : Nat} (V : oz_V a) (hi : i < a 3) (W : oz_LW s 34 a L) : ∃ t, f_Mod_yieldOf (nI i) (oz_md s a) = some (nI (oz_yi a L i), oz_md t a) ∧ oz_ak s t := by
  have hv := oz_V6 V
  obtain ⟨t, k1, k2, k3, k4⟩ := m_reachA V hi W
  have hr : oz_rc a L i ≤ 6 := Nat.min_le_left _ _
  refine ⟨t, ?_, k3⟩
  unfold f_Mod_yieldOf oz_yi
  rw [k1, Option.bind_some]
  by_cases c : oz_rc a L i = 0
  · rw [if_pos c, if_pos (show nI (oz_rc a L i) = (0 : Int32) by rw [c]; rfl)]
    rfl
  · rw [if_neg c, if_neg (show ¬ (nI (oz_rc a L i) = (0 : Int32)) by rw [pl_0, oz_eq (by omega) (by omega)]; exact c), pl_2, m_ofBed (by omega) (by omega), Option.bind_some, pk_mul]
/-- from the state behind a question of the law -/
theorem oz_ak_q {x t : lf_S} {v : Int32} (h : oz_ak (lf_w x 389 0 v) t) : t.1 389 0 = v ∧ oz_fr (fun p => p = 389 ∨ (3 ≤ p ∧ p < 10) ∨ p = 39 ∨ (40 ≤ p ∧ p < 70) ∨ p = 392 ∨ 395 ≤ p) x t ∧ ∀ j, j = 3 ∨ j = 6 ∨ j = 8 ∨ j = 12 → t.1 389 j = x.1 389 j := by
  refine ⟨(h.2.1 0 (by omega)).trans oz_w_s, oz_fr_tr (oz_fr_w (by omega)) (oz_fr_mono h.1 (by omega)), fun j hj => ?_⟩
  by_cases c : j = 12
  · rw [c, h.2.2, oz_w_n (by omega)]
  · rw [h.2.1 j (by omega), oz_w_n (by omega)]
theorem oz_IW (I : oz_I s a L n o E T len) : oz_LW s 34 a L := I.2.2.2.1
theorem oz_LW_w0 {x : lf_S} {v : Int32} (W : oz_LW x 34 a L) : oz_LW (lf_w x 389 0 v) 34 a L := oz_LW_cg W (fun p p1 p2 => oz_w_o (by omega)) rfl rfl (fun _ _ => rfl)
theorem oz_kp39 {u : lf_S} (h : oz_fr (fun p => p = 34 + 5) s u) : oz_kp s u := oz_kp_fr (oz_fr_mono h (by omega))
theorem q_bed (I : oz_I s a L n o E T len) (x y : Int32) : oz_An oz_H32 (f_Main_bed x y s) (f_Mod_bed x y) := by
  have V := oz_IV I
  have C := oz_IC I
  have W := oz_IW I
  have hv := oz_V6 V
  rcases oz_isix x (a 3) (by omega) with ⟨k, h1, rfl, _⟩ | ⟨h1, _⟩
  · have k6 : ∀ {β : Type} (f : Nat → Option β), lf_ck (nI k) 6 f = f k := fun f => oz_ck (by omega) (by omega)
    rcases oz_isr y 0 7 (by omega) (by omega) with ⟨m, m1, m2, rfl, _⟩ | ⟨m1, _⟩
    · have cl : ∀ m, f_Main_bed (nI k) (nI m) s = (if nI m = (0 : Int32) then lf_ck (nI k) 6 (fun k4 => some (Sum.inr (s.1 ((10 + 1) + 1) k4), s)) else (if nI m = (1 : Int32) then lf_ck (nI k) 6 (fun k5 => some (Sum.inr (s.1 ((10 + 1) + 2) k5), s)) else (if nI m = (2 : Int32) then lf_ck (nI k) 6 (fun k6 => some (Sum.inr (s.1 ((10 + 1) + 3) k6), s)) else (if nI m = (3 : Int32) then lf_ck (nI k) 6 (fun k7 => some (Sum.inr (s.1 ((10 + 1) + 4) k7), s)) else (if nI m = (4 : Int32) then (f_Law_reachOf 34 10 (nI k) s).bind (fun p8 => some (Sum.inr p8.1, p8.2)) else (if nI m = (5 : Int32) then (f_Law_yieldOf 34 10 (nI k) s).bind (fun p9 => some (Sum.inr p9.1, p9.2)) else (if nI m = (6 : Int32) then (f_Law_costOf 34 10 (nI k) s).bind (fun p10 => some (Sum.inr p10.1, p10.2)) else (if nI m = (7 : Int32) then (f_Beds_partOf (10 + 1) (nI k) s).bind (fun p11 => some (Sum.inr p11, s)) else some (Sum.inl 2, s))))))))) := fun m => by
        unfold f_Main_bed
        rw [c_nBed_t C h1 (by omega), oz_tb_r]
        rfl
      have md : ∀ (x : lf_S) m, m ≤ 7 → f_Mod_bed (nI k) (nI m) (oz_md x a) = (if (4 : Int32) ≤ nI m then (if nI m = (4 : Int32) then (f_Mod_reachOf (nI k) (oz_md (lf_w x 389 0 (nI 0)) a)).bind (fun p8 => some (p8.1, p8.2)) else (if nI m = (5 : Int32) then (f_Mod_yieldOf (nI k) (oz_md (lf_w x 389 0 (nI 0)) a)).bind (fun p7 => some (p7.1, p7.2)) else (if nI m = (7 : Int32) then (f_Mod_ofBed (nI k) (2 : Int32) (oz_md (lf_w x 389 0 (nI 0)) a)).bind (fun p5 => (f_Mod_stoolsOfAll (oz_md (lf_w x 389 0 (nI 0)) a)).bind (fun p6 => lf_nz p6 (some ((((100 : Int32) * p5) / p6), (oz_md (lf_w x 389 0 (nI 0)) a))))) else (f_Mod_asks (nI k) (oz_md (lf_w x 389 0 (nI 0)) a)).bind (fun p4 => some ((p4.1 389 16), p4))))) else (f_Mod_ofBed (nI k) (nI m) (oz_md (lf_w x 389 0 (nI 0)) a)).bind (fun p9 => some (p9, (oz_md (lf_w x 389 0 (nI 0)) a)))) := fun x m m2 => by
        unfold f_Mod_bed
        rw [oz_bt (m_isBed_t h1 (by omega)), oz_bt (show f_Mod_isIn (nI m) (0 : Int32) (7 : Int32) = some true from m_isIn_t (l := 0) (h := 7) (by omega) m2 (by omega)), oz_th0]
      match m, m2 with
      | 0, _ =>
        refine oz_qr0 I (v := nI (oz_bed a k 0)) (s1 := s) ?_ oz_kp_rf (fun x Ix => ?_)
        · rw [cl, if_pos (show nI 0 = (0 : Int32) from rfl), k6, b_1 C.2.1 h1]
        · rw [md _ _ (by omega), if_neg (by decide +kernel), m_ofBed (by omega) (by omega), Option.bind_some]
      | 1, _ =>
        refine oz_qr0 I (v := nI (oz_bed a k 1)) (s1 := s) ?_ oz_kp_rf (fun x Ix => ?_)
        · rw [cl, if_neg (by decide +kernel), if_pos (show nI 1 = (1 : Int32) from rfl), k6, b_2 C.2.1 h1]
        · rw [md _ _ (by omega), if_neg (by decide +kernel), m_ofBed (by omega) (by omega), Option.bind_some]
      | 2, _ =>
        refine oz_qr0 I (v := nI (oz_bed a k 2)) (s1 := s) ?_ oz_kp_rf (fun x Ix => ?_)
        · rw [cl, if_neg (by decide +kernel), if_neg (by decide +kernel), if_pos (show nI 2 = (2 : Int32) from rfl), k6, b_3 C.2.1 h1]
        · rw [md _ _ (by omega), if_neg (by decide +kernel), m_ofBed (by omega) (by omega), Option.bind_some]
      | 3, _ =>
        refine oz_qr0 I (v := nI (oz_bed a k 3)) (s1 := s) ?_ oz_kp_rf (fun x Ix => ?_)
        · rw [cl, if_neg (by decide +kernel), if_neg (by decide +kernel), if_neg (by decide +kernel), if_pos (show nI 3 = (3 : Int32) from rfl), k6, b_4 C.2.1 h1]
        · rw [md _ _ (by omega), if_neg (by decide +kernel), m_ofBed (by omega) (by omega), Option.bind_some]
      | 4, _ =>
        obtain ⟨u, g1, g2⟩ := c_reachOf V C (Or.inl (by omega)) h1 W
        refine oz_qr I (v := nI (oz_rc a L k)) (s1 := u) ?_ (oz_kp39 g2) (fun x Ix => ?_)
        · rw [cl, if_neg (by decide +kernel), if_neg (by decide +kernel), if_neg (by decide +kernel), if_neg (by decide +kernel), if_pos (show nI 4 = (4 : Int32) from rfl), g1, Option.bind_some]
        · obtain ⟨t, d1, d2, d3, d4⟩ := m_reachA V h1 (oz_LW_w0 (v := nI 0) (oz_IW Ix))
          refine ⟨t, ?_, oz_ak_q d3⟩
          rw [md _ _ (by omega), if_pos (by decide +kernel), if_pos (show nI 4 = (4 : Int32) from rfl), d1, Option.bind_some]
      | 5, _ =>
        obtain ⟨u, g1, g2⟩ := c_yieldOf V C (Or.inl (by omega)) h1 W
        refine oz_qr I (v := nI (oz_yi a L k)) (s1 := u) ?_ (oz_kp39 g2) (fun x Ix => ?_)
        · rw [cl, if_neg (by decide +kernel), if_neg (by decide +kernel), if_neg (by decide +kernel), if_neg (by decide +kernel), if_neg (by decide +kernel), if_pos (show nI 5 = (5 : Int32) from rfl), g1, Option.bind_some]
        · obtain ⟨t, d1, d3⟩ := m_yieldA V h1 (oz_LW_w0 (v := nI 0) (oz_IW Ix))
          refine ⟨t, ?_, oz_ak_q d3⟩
          rw [md _ _ (by omega), if_pos (by decide +kernel), if_neg (by decide +kernel), if_pos (show nI 5 = (5 : Int32) from rfl), d1, Option.bind_some]
      | 6, _ =>
        obtain ⟨u, g1, g2⟩ := c_costOf V C (Or.inl (by omega)) h1 W
        refine oz_qr I (v := nI (oz_co a L k)) (s1 := u) ?_ (oz_kp39 g2) (fun x Ix => ?_)
        · rw [cl, if_neg (by decide +kernel), if_neg (by decide +kernel), if_neg (by decide +kernel), if_neg (by decide +kernel), if_neg (by decide +kernel), if_neg (by decide +kernel), if_pos (show nI 6 = (6 : Int32) from rfl), g1, Option.bind_some]
        · obtain ⟨t, d1, d2, d3, d4, d5⟩ := m_asksA V h1 (oz_LW_w0 (v := nI 0) (oz_IW Ix))
          refine ⟨t, ?_, oz_ak_q d4⟩
          rw [md _ _ (by omega), if_pos (by decide +kernel), if_neg (by decide +kernel), if_neg (by decide +kernel), if_neg (by decide +kernel), d1, Option.bind_some, oz_md_o (by omega), d3]
      | 7, _ =>
        refine oz_qr0 I (v := nI (100 * oz_bed a k 2 / oz_sum (fun i => oz_bed a i 2) (a 3))) (s1 := s) ?_ oz_kp_rf (fun x Ix => ?_)
        · rw [cl, if_neg (by decide +kernel), if_neg (by decide +kernel), if_neg (by decide +kernel), if_neg (by decide +kernel), if_neg (by decide +kernel), if_neg (by decide +kernel), if_neg (by decide +kernel), if_pos (show nI 7 = (7 : Int32) from rfl), c_partOf V C.2.1 h1, Option.bind_some]
        · have pt := m_partOf (s := lf_w x 389 0 (nI 0)) V h1
          have v1 := oz_v1 V h1
          unfold oz_V1 at v1
          have hs : oz_sum (fun i => oz_bed a i 2) (a 3) ≤ a 3 * 99 := oz_sum_le (fun i hi => (oz_v1 V hi).2.2.2.1)
          have hs1 : oz_sum (fun i => oz_bed a i 2) (k + 1) ≤ oz_sum (fun i => oz_bed a i 2) (a 3) := oz_sum_mono (by omega)
          have hs2 : oz_sum (fun i => oz_bed a i 2) (k + 1) = oz_sum (fun i => oz_bed a i 2) k + oz_bed a k 2 := rfl
          rw [md _ _ (by omega), if_pos (by decide +kernel), if_neg (by decide +kernel), if_neg (by decide +kernel), if_pos (show nI 7 = (7 : Int32) from rfl), pl_2, pl_100, m_ofBed (by omega) (by omega), Option.bind_some, m_stoolsOfAll V, Option.bind_some, oz_nz (by omega) (by omega), pk_mul, oz_div (by omega) (by omega) (by omega)]
    · have ny : ∀ j, j ≤ 7 → ¬ (y = nI j) := fun j hj e => by
        rw [e, oz_lt (by omega) (by omega), oz_lt (by omega) (by omega)] at m1
        omega
      refine oz_ql I (e := 2) (k := 2) (s1 := s) ?_ oz_kp_rf rfl (by omega) (by omega) (fun x Ix => ?_)
      · unfold f_Main_bed
        rw [c_nBed_t C h1 (by omega), oz_tb_r]
        simp only [lf_lt]
        rw [if_neg (show ¬ (y = (0 : Int32)) from ny 0 (by omega)), if_neg (show ¬ (y = (1 : Int32)) from ny 1 (by omega)), if_neg (show ¬ (y = (2 : Int32)) from ny 2 (by omega)), if_neg (show ¬ (y = (3 : Int32)) from ny 3 (by omega)), if_neg (show ¬ (y = (4 : Int32)) from ny 4 (by omega)), if_neg (show ¬ (y = (5 : Int32)) from ny 5 (by omega)), if_neg (show ¬ (y = (6 : Int32)) from ny 6 (by omega)), if_neg (show ¬ (y = (7 : Int32)) from ny 7 (by omega))]
      · unfold f_Mod_bed
        rw [oz_bt (m_isBed_t h1 (by omega)), oz_bf (show f_Mod_isIn y (0 : Int32) (7 : Int32) = some false from m_isIn_o m1), oz_th2]
  · refine oz_ql I (e := 3) (k := 1) (s1 := s) ?_ oz_kp_rf rfl (by omega) (by omega) (fun x Ix => ?_)
    · unfold f_Main_bed
      rw [c_nBed_f C h1, oz_tb_l]
    · unfold f_Mod_bed
      rw [oz_bf (m_isBed_f h1), oz_th1]
theorem q_basket (I : oz_I s a L n o E T len) (x y : Int32) : oz_An oz_H32 (f_Main_basket x y s) (f_Mod_basket x y) := by
  have V := oz_IV I
  have C := oz_IC I
  have K := C.2.2.1
  have hv := oz_V6 V
  rcases oz_isix x (a 4) (by omega) with ⟨k, h1, rfl, _⟩ | ⟨h1, _⟩
  · have v2 := oz_v2 V h1
    unfold oz_V2 at v2
    have k5 : ∀ {β : Type} (f : Nat → Option β), lf_ck (nI k) 5 f = f k := fun f => oz_ck (by omega) (by omega)
    rcases oz_isr y 0 12 (by omega) (by omega) with ⟨m, m1, m2, rfl, _⟩ | ⟨m1, _⟩
    · have cl : ∀ m, f_Main_basket (nI k) (nI m) s = (if nI m = (0 : Int32) then lf_ck (nI k) 5 (fun k4 => some (Sum.inr (s.1 ((10 + 6) + 1) k4), s)) else (if nI m = (1 : Int32) then lf_ck (nI k) 5 (fun k5 => some (Sum.inr (s.1 ((10 + 6) + 2) k5), s)) else (if nI m = (2 : Int32) then lf_ck (nI k) 5 (fun k6 => some (Sum.inr (s.1 ((10 + 6) + 3) k6), s)) else (if nI m = (3 : Int32) then lf_ck (nI k) 5 (fun k7 => some (Sum.inr (s.1 ((10 + 6) + 4) k7), s)) else (if nI m = (4 : Int32) then (f_Baskets_needOf (10 + 6) (nI k) s).bind (fun p8 => some (Sum.inr p8, s)) else (if nI m = (5 : Int32) then lf_ck (nI k) 5 (fun k9 => some (Sum.inr (s.1 ((10 + 6) + 6) k9), s)) else (if nI m = (6 : Int32) then (f_Baskets_againOf (10 + 6) (nI k) s).bind (fun p10 => some (Sum.inr p10, s)) else (if nI m = (7 : Int32) then lf_ck (nI k) 5 (fun k11 => (f_Baskets_looseOf (10 + 6) (nI k) (s.1 ((10 + 6) + 1) k11) s).bind (fun p12 => some (Sum.inr p12, s))) else (if nI m = (8 : Int32) then (f_Baskets_floatOf (10 + 6) (nI k) s).bind (fun p13 => some (Sum.inr p13, s)) else (if nI m = (9 : Int32) then (f_Baskets_dropOf (10 + 6) (nI k) s).bind (fun p14 => some (Sum.inr p14, s)) else (if nI m = (10 : Int32) then (f_Baskets_blindOf (10 + 6) (nI k) s).bind (fun p15 => some (Sum.inr p15, s)) else (if nI m = (11 : Int32) then (f_Baskets_fitOf (10 + 6) (nI k) s).bind (fun p16 => some (Sum.inr p16, s)) else (if nI m = (12 : Int32) then (f_Ways_nearest (10 + 6) (nI k) s).bind (fun p17 => some (Sum.inr p17.1, p17.2)) else some (Sum.inl 2, s)))))))))))))) := fun m => by
        unfold f_Main_basket
        rw [c_needBasket_t C h1 (by omega), oz_tb_r]
        rfl
      have md : ∀ (x : lf_S) m, m ≤ 12 → f_Mod_basket (nI k) (nI m) (oz_md x a) = (if (4 : Int32) ≤ nI m then (if nI m = (4 : Int32) then (f_Mod_needOf (nI k) (oz_md (lf_w x 389 0 (nI 0)) a)).bind (fun p12 => some (p12, (oz_md (lf_w x 389 0 (nI 0)) a))) else (if nI m = (5 : Int32) then (f_Mod_period (nI k) (oz_md (lf_w x 389 0 (nI 0)) a)).bind (fun p11 => some (p11, (oz_md (lf_w x 389 0 (nI 0)) a))) else (if nI m = (6 : Int32) then (f_Mod_againOf (nI k) (oz_md (lf_w x 389 0 (nI 0)) a)).bind (fun p10 => some (p10, (oz_md (lf_w x 389 0 (nI 0)) a))) else (if nI m = (7 : Int32) then (f_Mod_loose (nI k) (oz_md (lf_w x 389 0 (nI 0)) a)).bind (fun p9 => some (p9, (oz_md (lf_w x 389 0 (nI 0)) a))) else (if nI m = (8 : Int32) then (f_Mod_floatOf (nI k) (oz_md (lf_w x 389 0 (nI 0)) a)).bind (fun p8 => some (p8, (oz_md (lf_w x 389 0 (nI 0)) a))) else (if nI m = (9 : Int32) then (f_Mod_dropOf (nI k) (oz_md (lf_w x 389 0 (nI 0)) a)).bind (fun p7 => some (p7, (oz_md (lf_w x 389 0 (nI 0)) a))) else (if nI m = (10 : Int32) then (f_Mod_blindOf (nI k) (oz_md (lf_w x 389 0 (nI 0)) a)).bind (fun p6 => some (p6, (oz_md (lf_w x 389 0 (nI 0)) a))) else (if nI m = (11 : Int32) then (f_Mod_fitOf (nI k) (oz_md (lf_w x 389 0 (nI 0)) a)).bind (fun p5 => some (p5, (oz_md (lf_w x 389 0 (nI 0)) a))) else (f_Mod_nearest (nI k) (oz_md (lf_w x 389 0 (nI 0)) a)).bind (fun p4 => some (p4.1, p4.2)))))))))) else (f_Mod_ofBasket (nI k) (nI m) (oz_md (lf_w x 389 0 (nI 0)) a)).bind (fun p13 => some (p13, (oz_md (lf_w x 389 0 (nI 0)) a)))) := fun x m m2 => by
        unfold f_Mod_basket
        rw [oz_bt (m_isBasket_t h1 (by omega)), oz_bt (show f_Mod_isIn (nI m) (0 : Int32) (12 : Int32) = some true from m_isIn_t (l := 0) (h := 12) (by omega) m2 (by omega)), oz_th0]
      match m, m2 with
      | 0, _ =>
        refine oz_qr0 I (v := nI (oz_bas a k 0)) (s1 := s) ?_ oz_kp_rf (fun x Ix => ?_)
        · rw [cl, if_pos (show nI 0 = (0 : Int32) from rfl), k5, k_1 K h1]
        · rw [md _ _ (by omega), if_neg (by decide +kernel), m_ofBasket (by omega) (by omega), Option.bind_some]
      | 1, _ =>
        refine oz_qr0 I (v := nI (oz_bas a k 1)) (s1 := s) ?_ oz_kp_rf (fun x Ix => ?_)
        · rw [cl, if_neg (by decide +kernel), if_pos (show nI 1 = (1 : Int32) from rfl), k5, k_2 K h1]
        · rw [md _ _ (by omega), if_neg (by decide +kernel), m_ofBasket (by omega) (by omega), Option.bind_some]
      | 2, _ =>
        refine oz_qr0 I (v := nI (oz_bas a k 2)) (s1 := s) ?_ oz_kp_rf (fun x Ix => ?_)
        · rw [cl, if_neg (by decide +kernel), if_neg (by decide +kernel), if_pos (show nI 2 = (2 : Int32) from rfl), k5, k_3 K h1]
        · rw [md _ _ (by omega), if_neg (by decide +kernel), m_ofBasket (by omega) (by omega), Option.bind_some]
      | 3, _ =>
        refine oz_qr0 I (v := nI (oz_bas a k 3)) (s1 := s) ?_ oz_kp_rf (fun x Ix => ?_)
        · rw [cl, if_neg (by decide +kernel), if_neg (by decide +kernel), if_neg (by decide +kernel), if_pos (show nI 3 = (3 : Int32) from rfl), k5, k_4 K h1]
        · rw [md _ _ (by omega), if_neg (by decide +kernel), m_ofBasket (by omega) (by omega), Option.bind_some]
      | 4, _ =>
        refine oz_qr0 I (v := nI (oz_need a k)) (s1 := s) ?_ oz_kp_rf (fun x Ix => ?_)
        · rw [cl, if_neg (by decide +kernel), if_neg (by decide +kernel), if_neg (by decide +kernel), if_neg (by decide +kernel), if_pos (show nI 4 = (4 : Int32) from rfl), c_needOf V K h1, Option.bind_some]
        · rw [md _ _ (by omega), if_pos (by decide +kernel), if_pos (show nI 4 = (4 : Int32) from rfl), m_needOf V h1, Option.bind_some]
      | 5, _ =>
        refine oz_qr0 I (v := nI (oz_per a k)) (s1 := s) ?_ oz_kp_rf (fun x Ix => ?_)
        · rw [cl, if_neg (by decide +kernel), if_neg (by decide +kernel), if_neg (by decide +kernel), if_neg (by decide +kernel), if_neg (by decide +kernel), if_pos (show nI 5 = (5 : Int32) from rfl), k5, k_6 K h1]
        · rw [md _ _ (by omega), if_pos (by decide +kernel), if_neg (by decide +kernel), if_pos (show nI 5 = (5 : Int32) from rfl), m_period V h1, Option.bind_some]
      | 6, _ =>
        refine oz_qr0 I (v := nI (oz_again a k)) (s1 := s) ?_ oz_kp_rf (fun x Ix => ?_)
        · rw [cl, if_neg (by decide +kernel), if_neg (by decide +kernel), if_neg (by decide +kernel), if_neg (by decide +kernel), if_neg (by decide +kernel), if_neg (by decide +kernel), if_pos (show nI 6 = (6 : Int32) from rfl), c_againOf V K h1, Option.bind_some]
        · rw [md _ _ (by omega), if_pos (by decide +kernel), if_neg (by decide +kernel), if_neg (by decide +kernel), if_pos (show nI 6 = (6 : Int32) from rfl), m_againOf V h1, Option.bind_some]
      | 7, _ =>
        refine oz_qr0 I (v := nI (oz_loose a k (oz_bas a k 0))) (s1 := s) ?_ oz_kp_rf (fun x Ix => ?_)
        · rw [cl, if_neg (by decide +kernel), if_neg (by decide +kernel), if_neg (by decide +kernel), if_neg (by decide +kernel), if_neg (by decide +kernel), if_neg (by decide +kernel), if_neg (by decide +kernel), if_pos (show nI 7 = (7 : Int32) from rfl), k5, k_1 K h1, c_looseOf V K h1 (by omega), Option.bind_some]
        · rw [md _ _ (by omega), if_pos (by decide +kernel), if_neg (by decide +kernel), if_neg (by decide +kernel), if_neg (by decide +kernel), if_pos (show nI 7 = (7 : Int32) from rfl), m_loose V h1, Option.bind_some]
      | 8, _ =>
        refine oz_qr0 I (v := nI (oz_float a k)) (s1 := s) ?_ oz_kp_rf (fun x Ix => ?_)
        · rw [cl, if_neg (by decide +kernel), if_neg (by decide +kernel), if_neg (by decide +kernel), if_neg (by decide +kernel), if_neg (by decide +kernel), if_neg (by decide +kernel), if_neg (by decide +kernel), if_neg (by decide +kernel), if_pos (show nI 8 = (8 : Int32) from rfl), c_floatOf V K h1, Option.bind_some]
        · rw [md _ _ (by omega), if_pos (by decide +kernel), if_neg (by decide +kernel), if_neg (by decide +kernel), if_neg (by decide +kernel), if_neg (by decide +kernel), if_pos (show nI 8 = (8 : Int32) from rfl), m_floatOf V h1, Option.bind_some]
      | 9, _ =>
        refine oz_qr0 I (v := nI (oz_drop a k)) (s1 := s) ?_ oz_kp_rf (fun x Ix => ?_)
        · rw [cl, if_neg (by decide +kernel), if_neg (by decide +kernel), if_neg (by decide +kernel), if_neg (by decide +kernel), if_neg (by decide +kernel), if_neg (by decide +kernel), if_neg (by decide +kernel), if_neg (by decide +kernel), if_neg (by decide +kernel), if_pos (show nI 9 = (9 : Int32) from rfl), c_dropOf V K h1, Option.bind_some]
        · rw [md _ _ (by omega), if_pos (by decide +kernel), if_neg (by decide +kernel), if_neg (by decide +kernel), if_neg (by decide +kernel), if_neg (by decide +kernel), if_neg (by decide +kernel), if_pos (show nI 9 = (9 : Int32) from rfl), m_dropOf V h1, Option.bind_some]
      | 10, _ =>
        refine oz_qr0 I (v := nI (oz_blind a k)) (s1 := s) ?_ oz_kp_rf (fun x Ix => ?_)
        · rw [cl, if_neg (by decide +kernel), if_neg (by decide +kernel), if_neg (by decide +kernel), if_neg (by decide +kernel), if_neg (by decide +kernel), if_neg (by decide +kernel), if_neg (by decide +kernel), if_neg (by decide +kernel), if_neg (by decide +kernel), if_neg (by decide +kernel), if_pos (show nI 10 = (10 : Int32) from rfl), c_blindOf V K h1, Option.bind_some]
        · rw [md _ _ (by omega), if_pos (by decide +kernel), if_neg (by decide +kernel), if_neg (by decide +kernel), if_neg (by decide +kernel), if_neg (by decide +kernel), if_neg (by decide +kernel), if_neg (by decide +kernel), if_pos (show nI 10 = (10 : Int32) from rfl), m_blindOf V h1, Option.bind_some]
      | 11, _ =>
        refine oz_qr0 I (v := oz_fit a k) (s1 := s) ?_ oz_kp_rf (fun x Ix => ?_)
        · rw [cl, if_neg (by decide +kernel), if_neg (by decide +kernel), if_neg (by decide +kernel), if_neg (by decide +kernel), if_neg (by decide +kernel), if_neg (by decide +kernel), if_neg (by decide +kernel), if_neg (by decide +kernel), if_neg (by decide +kernel), if_neg (by decide +kernel), if_neg (by decide +kernel), if_pos (show nI 11 = (11 : Int32) from rfl), c_fitOf V K h1, Option.bind_some]
        · rw [md _ _ (by omega), if_pos (by decide +kernel), if_neg (by decide +kernel), if_neg (by decide +kernel), if_neg (by decide +kernel), if_neg (by decide +kernel), if_neg (by decide +kernel), if_neg (by decide +kernel), if_neg (by decide +kernel), if_pos (show nI 11 = (11 : Int32) from rfl), m_fitOf V h1, Option.bind_some]
      | 12, _ =>
        obtain ⟨u, g1, g2⟩ := c_nearest V K (by omega) h1
        refine oz_qr I (v := oz_en ((oz_nr a k).map Prod.fst)) (s1 := u) ?_ (oz_kp_fr (oz_fr_mono g2 (by omega))) (fun x Ix => ?_)
        · rw [cl, if_neg (by decide +kernel), if_neg (by decide +kernel), if_neg (by decide +kernel), if_neg (by decide +kernel), if_neg (by decide +kernel), if_neg (by decide +kernel), if_neg (by decide +kernel), if_neg (by decide +kernel), if_neg (by decide +kernel), if_neg (by decide +kernel), if_neg (by decide +kernel), if_neg (by decide +kernel), if_pos (show nI 12 = (12 : Int32) from rfl), g1, Option.bind_some]
        · obtain ⟨t, d1, d2⟩ := m_nearest (s := lf_w x 389 0 (nI 0)) V h1
          refine ⟨t, ?_, by rw [d2.1 389 (by omega)]; exact oz_w_s, oz_fr_tr (oz_fr_w (by omega)) (oz_fr_mono d2 (by omega)), fun j hj => by rw [d2.1 389 (by omega), oz_w_n (by omega)]⟩
          rw [md _ _ (by omega), if_pos (by decide +kernel), if_neg (by decide +kernel), if_neg (by decide +kernel), if_neg (by decide +kernel), if_neg (by decide +kernel), if_neg (by decide +kernel), if_neg (by decide +kernel), if_neg (by decide +kernel), if_neg (by decide +kernel), d1, Option.bind_some]
    · have ny : ∀ j, j ≤ 12 → ¬ (y = nI j) := fun j hj e => by
        rw [e, oz_lt (by omega) (by omega), oz_lt (by omega) (by omega)] at m1
        omega
      refine oz_ql I (e := 2) (k := 2) (s1 := s) ?_ oz_kp_rf rfl (by omega) (by omega) (fun x Ix => ?_)
      · unfold f_Main_basket
        rw [c_needBasket_t C h1 (by omega), oz_tb_r]
        simp only [lf_lt]
        rw [if_neg (show ¬ (y = (0 : Int32)) from ny 0 (by omega)), if_neg (show ¬ (y = (1 : Int32)) from ny 1 (by omega)), if_neg (show ¬ (y = (2 : Int32)) from ny 2 (by omega)), if_neg (show ¬ (y = (3 : Int32)) from ny 3 (by omega)), if_neg (show ¬ (y = (4 : Int32)) from ny 4 (by omega)), if_neg (show ¬ (y = (5 : Int32)) from ny 5 (by omega)), if_neg (show ¬ (y = (6 : Int32)) from ny 6 (by omega)), if_neg (show ¬ (y = (7 : Int32)) from ny 7 (by omega)), if_neg (show ¬ (y = (8 : Int32)) from ny 8 (by omega)), if_neg (show ¬ (y = (9 : Int32)) from ny 9 (by omega)), if_neg (show ¬ (y = (10 : Int32)) from ny 10 (by omega)), if_neg (show ¬ (y = (11 : Int32)) from ny 11 (by omega)), if_neg (show ¬ (y = (12 : Int32)) from ny 12 (by omega))]
      · unfold f_Mod_basket
        rw [oz_bt (m_isBasket_t h1 (by omega)), oz_bf (show f_Mod_isIn y (0 : Int32) (12 : Int32) = some false from m_isIn_o m1), oz_th2]
  · refine oz_ql I (e := 3) (k := 1) (s1 := s) ?_ oz_kp_rf rfl (by omega) (by omega) (fun x Ix => ?_)
    · unfold f_Main_basket
      rw [c_needBasket_f C h1, oz_tb_l]
    · unfold f_Mod_basket
      rw [oz_bf (m_isBasket_f h1), oz_th1]
end
