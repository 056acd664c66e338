/-! ===== queries answered ===== -/
def oz_H3 : Nat → Option Int32 := fun x => if x = 3 then some (1 : Int32) else none
def oz_H32 : Nat → Option Int32 := fun x => if x = 3 then some (1 : Int32) else if x = 2 then some (2 : Int32) else none
def oz_H30 : Nat → Option Int32 := fun x => if x = 3 then some (1 : Int32) else if x = 0 then some (2 : Int32) else none
def oz_H34 : Nat → Option Int32 := fun x => if x = 3 then some (1 : Int32) else if x = 4 then some (2 : Int32) else none
def oz_H304 : Nat → Option Int32 := fun x => if x = 3 then some (1 : Int32) else if x = 0 then some (2 : Int32) else if x = 4 then some (3 : Int32) else none
def oz_H04 : Nat → Option Int32 := fun x => if x = 0 then some (1 : Int32) else if x = 4 then some (2 : Int32) else none
def oz_H01 : Nat → Option Int32 := fun x => if x = 0 then some (1 : Int32) else if x = 1 then some (2 : Int32) else none
def oz_H0 : Nat → Option Int32 := fun x => if x = 0 then some (1 : Int32) else none
def oz_H2 : Nat → Option Int32 := fun x => if x = 2 then some (1 : Int32) else none
section
variable {s : lf_S} {a : Nat → Nat} {L : List (Nat × Nat × List Nat)} {n o : Nat} {E : Nat → Nat → Nat} {T : Nat → Nat} {len : Nat}
theorem oz_qr {H : Nat → Option Int32} {F : Option ((Nat ⊕ Int32) × lf_S)} {G : lf_S → Option (Int32 × lf_S)} {v : Int32} {s1 : lf_S} (I : oz_I s a L n o E T len) (hF : F = some (Sum.inr v, s1)) (hk : oz_kp s s1) (hG : ∀ x, oz_I x a L n o E T len → ∃ t, G (oz_md x a) = some (v, oz_md t a) ∧ t.1 389 0 = nI 0 ∧ oz_fr (fun p => p = 389 ∨ (3 ≤ p ∧ p < 10) ∨ p = 39 ∨ (40 ≤ p ∧ p < 70) ∨ p = 392 ∨ 395 ≤ p) x t ∧ ∀ j, j = 3 ∨ j = 6 ∨ j = 8 ∨ j = 12 → t.1 389 j = x.1 389 j) : oz_An H F G := oz_qI I (fun _ => 1) (R := Sum.inr v) hF hk (fun e he => nomatch he) (fun x _ Ix => hG x Ix)
theorem oz_qr0 {H : Nat → Option Int32} {F : Option ((Nat ⊕ Int32) × lf_S)} {G : lf_S → Option (Int32 × lf_S)} {v : Int32} {s1 : lf_S} (I : oz_I s a L n o E T len) (hF : F = some (Sum.inr v, s1)) (hk : oz_kp s s1) (hG : ∀ x, oz_I x a L n o E T len → G (oz_md x a) = some (v, oz_md (lf_w x 389 0 (nI 0)) a)) : oz_An H F G := oz_qr I hF hk (fun x Ix => ⟨_, hG x Ix, oz_w_s, oz_fr_w (by omega), fun j hj => oz_w_n (by omega)⟩)
theorem oz_ql {H : Nat → Option Int32} {F : Option ((Nat ⊕ Int32) × lf_S)} {G : lf_S → Option (Int32 × lf_S)} {e k : Nat} {s1 : lf_S} (I : oz_I s a L n o E T len) (hF : F = some (Sum.inl e, s1)) (hk : oz_kp s s1) (hH : H e = some (nI k)) (k1 : 1 ≤ k) (k2 : k < 10) (hG : ∀ x, oz_I x a L n o E T len → G (oz_md x a) = some ((0 : Int32), oz_md (lf_w x 389 0 (nI k)) a)) : oz_An H F G := oz_qI I (fun _ => k) (R := Sum.inl e) hF hk (fun e' he => by cases he; exact ⟨hH, k1, k2⟩) (fun x _ Ix => ⟨_, hG x Ix, oz_w_s, oz_fr_w (by omega), fun j hj => oz_w_n (by omega)⟩)
/-- bounds of the row, from the invariant -/
theorem oz_IV (I : oz_I s a L n o E T len) : oz_V a := I.2.1
theorem oz_IC (I : oz_I s a L n o E T len) : oz_C s 10 a := I.2.2.1
theorem q_gain (I : oz_I s a L n o E T len) (x y : Int32) : oz_An oz_H30 (f_Main_gain x y s) (f_Mod_gain x y) := by
  have V := oz_IV I
  have C := oz_IC I
  have hv := oz_V6 V
  rcases oz_isix x (a 3) (by omega) with ⟨k, h1, rfl, _⟩ | ⟨h1, _⟩
  · rcases oz_isr y 0 6 (by omega) (by omega) with ⟨m, m1, m2, rfl, _⟩ | ⟨m1, _⟩
    · have hc : oz_cuts a k m < 64 := by
        have h := oz_best_lt (val := oz_gain a k m) (ok := fun _ => true) (2 ^ m - 1)
        have p := oz_p64 m2
        have p1 : 1 ≤ 2 ^ m := Nat.one_le_two_pow
        have e : oz_cuts a k m = oz_best (oz_gain a k m) (fun _ => true) (2 ^ m - 1) := rfl
        omega
      refine oz_qr0 I (v := nI (oz_gain a k m (oz_cuts a k m))) (s1 := s) ?_ oz_kp_rf (fun x Ix => ?_)
      · unfold f_Main_gain
        rw [c_nBed_t C h1 (by omega), oz_tb_r, show f_Main_needWithin (nI m) (0 : Int32) (6 : Int32) s = some (Sum.inr (), s) from c_needWithin_t (l := 0) (h := 6) (by omega) m2 (by omega), oz_tb_r, c_bestCuts V C.2.1 h1 m2, Option.bind_some, c_feetCut V C.2.1 h1 m2 hc, Option.bind_some]
      · unfold f_Mod_gain
        rw [oz_bt (m_isBed_t h1 (by omega)), oz_bt (show f_Mod_isIn (nI m) (0 : Int32) (6 : Int32) = some true from m_isIn_t (l := 0) (h := 6) (by omega) m2 (by omega)), oz_th0, m_cutsOf V h1 m2, Option.bind_some, m_gainBy V h1 m2 hc, Option.bind_some]
    · refine oz_ql I (e := 0) (k := 2) (s1 := s) ?_ oz_kp_rf rfl (by omega) (by omega) (fun x Ix => ?_)
      · unfold f_Main_gain
        rw [c_nBed_t C h1 (by omega), oz_tb_r, show f_Main_needWithin y (0 : Int32) (6 : Int32) s = some (Sum.inl 0, s) from c_needWithin_f m1, oz_tb_l]
      · unfold f_Mod_gain
        rw [oz_bt (m_isBed_t h1 (by omega)), oz_bf (show f_Mod_isIn y (0 : Int32) (6 : Int32) = some false from m_isIn_o m1), oz_th2]
  · refine oz_ql I (e := 3) (k := 1) (s1 := s) ?_ oz_kp_rf rfl (by omega) (by omega) (fun x Ix => ?_)
    · unfold f_Main_gain
      rw [c_nBed_f C h1, oz_tb_l]
    · unfold f_Mod_gain
      rw [oz_bf (m_isBed_f h1), oz_th1]
theorem q_cuts (I : oz_I s a L n o E T len) (x y : Int32) : oz_An oz_H30 (f_Main_cuts x y s) (f_Mod_cuts x y) := by
  have V := oz_IV I
  have C := oz_IC I
  have hv := oz_V6 V
  rcases oz_isix x (a 3) (by omega) with ⟨k, h1, rfl, _⟩ | ⟨h1, _⟩
  · rcases oz_isr y 0 6 (by omega) (by omega) with ⟨m, m1, m2, rfl, _⟩ | ⟨m1, _⟩
    · refine oz_qr0 I (v := nI (oz_cuts a k m)) (s1 := s) ?_ oz_kp_rf (fun x Ix => ?_)
      · unfold f_Main_cuts
        rw [c_nBed_t C h1 (by omega), oz_tb_r, show f_Main_needWithin (nI m) (0 : Int32) (6 : Int32) s = some (Sum.inr (), s) from c_needWithin_t (l := 0) (h := 6) (by omega) m2 (by omega), oz_tb_r, c_bestCuts V C.2.1 h1 m2, Option.bind_some]
      · unfold f_Mod_cuts
        rw [oz_bt (m_isBed_t h1 (by omega)), oz_bt (show f_Mod_isIn (nI m) (0 : Int32) (6 : Int32) = some true from m_isIn_t (l := 0) (h := 6) (by omega) m2 (by omega)), oz_th0, m_cutsOf V h1 m2, Option.bind_some]
    · refine oz_ql I (e := 0) (k := 2) (s1 := s) ?_ oz_kp_rf rfl (by omega) (by omega) (fun x Ix => ?_)
      · unfold f_Main_cuts
        rw [c_nBed_t C h1 (by omega), oz_tb_r, show f_Main_needWithin y (0 : Int32) (6 : Int32) s = some (Sum.inl 0, s) from c_needWithin_f m1, oz_tb_l]
      · unfold f_Mod_cuts
        rw [oz_bt (m_isBed_t h1 (by omega)), oz_bf (show f_Mod_isIn y (0 : Int32) (6 : Int32) = some false from m_isIn_o m1), oz_th2]
  · refine oz_ql I (e := 3) (k := 1) (s1 := s) ?_ oz_kp_rf rfl (by omega) (by omega) (fun x Ix => ?_)
    · unfold f_Main_cuts
      rw [c_nBed_f C h1, oz_tb_l]
    · unfold f_Mod_cuts
      rw [oz_bf (m_isBed_f h1), oz_th1]
theorem q_sort (I : oz_I s a L n o E T len) (x : Int32) : oz_An oz_H3 (f_Main_sort x s) (f_Mod_sort x) := by
  have V := oz_IV I
  have C := oz_IC I
  rcases oz_isr x 0 2 (by omega) (by omega) with ⟨m, m1, m2, rfl, _⟩ | ⟨m1, _⟩
  · refine oz_qr0 I (v := nI (oz_set (fun i => oz_bed a i 0 == m) (a 3))) (s1 := s) ?_ oz_kp_rf (fun x Ix => ?_)
    · unfold f_Main_sort
      rw [show f_Main_needIndex (nI m) (0 : Int32) (2 : Int32) s = some (Sum.inr (), s) from c_needIndex_t (l := 0) (h := 2) (by omega) m2 (by omega), oz_tb_r, c_ofSort V C.2.1 m2, Option.bind_some]
    · unfold f_Mod_sort
      rw [oz_bt (show f_Mod_isIn (nI m) (0 : Int32) (2 : Int32) = some true from m_isIn_t (l := 0) (h := 2) (by omega) m2 (by omega)), oz_th0]
      simp only [lf_lt]
      rw [pl_0, m_sortLoop V m2, Option.bind_some]
  · refine oz_ql I (e := 3) (k := 1) (s1 := s) ?_ oz_kp_rf rfl (by omega) (by omega) (fun x' Ix => ?_)
    · unfold f_Main_sort
      rw [show f_Main_needIndex x (0 : Int32) (2 : Int32) s = some (Sum.inl 3, s) from c_needIndex_f m1, oz_tb_l]
    · unfold f_Mod_sort
      rw [oz_bf (show f_Mod_isIn x (0 : Int32) (2 : Int32) = some false from m_isIn_o m1), oz_th1]
theorem q_led (I : oz_I s a L n o E T len) (x y : Int32) : oz_An oz_H3 (f_Main_led x y s) (f_Mod_led x y) := by
  have V := oz_IV I
  have C := oz_IC I
  have hv := oz_V6 V
  have hV := oz_v0 V
  unfold oz_V0 at hV
  rcases oz_isix x (a 3) (by omega) with ⟨k, h1, rfl, _⟩ | ⟨h1, _⟩
  · refine oz_qr0 I (v := if y = 0 then nI (oz_ledn a k) else oz_ledy a k) (s1 := s) ?_ oz_kp_rf (fun x Ix => ?_)
    · unfold f_Main_led
      rw [c_nBed_t C h1 (by omega), oz_tb_r, c_cutsOf V C.2.2.2.2.2.1 (by omega), c_latestCut V C.2.2.2.2.2.1 (by omega)]
      by_cases cy : y = 0
      · rw [if_pos cy, if_pos cy, Option.bind_some]
      · rw [if_neg cy, if_neg cy, Option.bind_some]
    · unfold f_Mod_led
      rw [oz_bt (m_isBed_t h1 (by omega)), oz_th0]
      simp only [lf_lt]
      rw [pl_11, oz_ck (by omega) (by omega), oz_md_r, pl_0, pl_1, oz_neg1]
      have lp := m_ledLoop (s := lf_w x 389 0 (nI 0)) V (b := k) (by omega) y (a 11) 5000 0 oz_N (Nat.le_refl _) (by omega)
      unfold oz_dn at lp
      rw [lp, Option.bind_some, Nat.zero_add]
      unfold oz_ledn oz_ledy
      by_cases cy : y = 0
      · rw [if_pos (show y = nI 0 from cy), if_pos (show y = nI 0 from cy)]
      · rw [if_neg (show ¬ (y = nI 0) from cy), if_neg (show ¬ (y = nI 0) from cy)]
  · refine oz_ql I (e := 3) (k := 1) (s1 := s) ?_ oz_kp_rf rfl (by omega) (by omega) (fun x Ix => ?_)
    · unfold f_Main_led
      rw [c_nBed_f C h1, oz_tb_l]
    · unfold f_Mod_led
      rw [oz_bf (m_isBed_f h1), oz_th1]
theorem q_share (I : oz_I s a L n o E T len) (x y : Int32) : oz_An oz_H30 (f_Main_share x y s) (f_Mod_share x y) := by
  have V := oz_IV I
  have C := oz_IC I
  have hv := oz_V6 V
  rcases oz_isix x (a 5) (by omega) with ⟨k, h1, rfl, _⟩ | ⟨h1, _⟩
  · rcases oz_isr y 0 99 (by omega) (by omega) with ⟨m, m1, m2, rfl, _⟩ | ⟨m1, _⟩
    · obtain ⟨t, g1, g2, g3⟩ := c_giveBundles V C.2.2.2.1 (by omega) (by omega) m2
      refine oz_qr I (v := nI (oz_sh a m k)) (s1 := t) ?_ (oz_kp_fr (oz_fr_mono g3 (by omega))) (fun x Ix => ?_)
      · unfold f_Main_share
        rw [c_nHand_t C h1 (by omega), oz_tb_r, show f_Main_needWithin (nI m) (0 : Int32) (99 : Int32) s = some (Sum.inr (), s) from c_needWithin_t (l := 0) (h := 99) (by omega) m2 (by omega), oz_tb_r, g1, Option.bind_some, oz_ck (by omega) (by omega), g2 k h1]
      · obtain ⟨u, d1, d2, d3⟩ := m_shareGive (s := lf_w x 389 0 (nI 0)) V (by omega) (nI k) m2
        refine ⟨u, ?_, by rw [d3.1 389 (by omega)]; exact oz_w_s, oz_fr_tr (oz_fr_w (by omega)) (oz_fr_mono d3 (by omega)), fun j hj => by rw [d3.1 389 (by omega), oz_w_n (by omega)]⟩
        unfold f_Mod_share
        rw [oz_bt (m_isHand_t h1 (by omega)), oz_bt (show f_Mod_isIn (nI m) (0 : Int32) (99 : Int32) = some true from m_isIn_t (l := 0) (h := 99) (by omega) m2 (by omega)), oz_th0]
        simp only [lf_lt]
        rw [pl_0]
        cases hz : f_Mod_share_42 (nI k) (nI m) 5000 (nI 0) (oz_md (lf_w x 389 0 (nI 0)) a) with
        | none => rw [hz] at d1; exact nomatch d1
        | some w =>
          rw [hz, Option.bind_some] at d1
          rw [Option.bind_some, d1, Option.bind_some, oz_ck (by omega) (by omega), oz_md_o (by omega), d2 k h1]
    · refine oz_ql I (e := 0) (k := 2) (s1 := s) ?_ oz_kp_rf rfl (by omega) (by omega) (fun x Ix => ?_)
      · unfold f_Main_share
        rw [c_nHand_t C h1 (by omega), oz_tb_r, show f_Main_needWithin y (0 : Int32) (99 : Int32) s = some (Sum.inl 0, s) from c_needWithin_f m1, oz_tb_l]
      · unfold f_Mod_share
        rw [oz_bt (m_isHand_t h1 (by omega)), oz_bf (show f_Mod_isIn y (0 : Int32) (99 : Int32) = some false from m_isIn_o m1), oz_th2]
  · refine oz_ql I (e := 3) (k := 1) (s1 := s) ?_ oz_kp_rf rfl (by omega) (by omega) (fun x Ix => ?_)
    · unfold f_Main_share
      rw [c_nHand_f C h1, oz_tb_l]
    · unfold f_Mod_share
      rw [oz_bf (m_isHand_f h1), oz_th1]
theorem q_order (I : oz_I s a L n o E T len) (x y : Int32) : oz_An oz_H32 (f_Main_order x y s) (f_Mod_order x y) := by
  have V := oz_IV I
  have C := oz_IC I
  have hv := oz_V6 V
  rcases oz_isix x (a 6) (by omega) with ⟨k, h1, rfl, _⟩ | ⟨h1, _⟩
  · have v4 := oz_v4 V h1
    unfold oz_V4 at v4
    rcases oz_isr y 0 3 (by omega) (by omega) with ⟨m, m1, m2, rfl, _⟩ | ⟨m1, _⟩
    · refine oz_qr0 I (v := nI (if m = 3 then oz_rods a k else oz_ord a k m)) (s1 := s) ?_ oz_kp_rf (fun x Ix => ?_)
      · unfold f_Main_order
        rw [c_nOrd_t C h1 (by omega), oz_tb_r]
        simp only [lf_lt]
        match m, m2 with
        | 0, _ => rw [if_pos (show nI 0 = (0 : Int32) from rfl), oz_ck (by omega) (by omega), o_1 C.2.2.2.2.1 h1]; rfl
        | 1, _ => rw [if_neg (by decide +kernel), if_pos (show nI 1 = (1 : Int32) from rfl), oz_ck (by omega) (by omega), o_2 C.2.2.2.2.1 h1]; rfl
        | 2, _ =>
          rw [if_neg (by decide +kernel), if_neg (by decide +kernel), if_pos (show nI 2 = (2 : Int32) from rfl), c_isOpen V C.2.2.2.2.1 h1, Option.bind_some]
          unfold oz_opn
          rw [if_neg (show ¬ (2 = 3) by omega)]
          by_cases c : oz_ord a k 2 = 1
          · rw [c, if_pos (show ((1 : Nat) == 1) = true by decide)]; rfl
          · have c0 : oz_ord a k 2 = 0 := by omega
            rw [c0, if_neg (show ¬ (((0 : Nat) == 1) = true) by decide)]; rfl
        | 3, _ => rw [if_neg (by decide +kernel), if_neg (by decide +kernel), if_neg (by decide +kernel), if_pos (show nI 3 = (3 : Int32) from rfl), c_rodsFor V C h1, Option.bind_some]; rfl
      · unfold f_Mod_order
        rw [oz_bt (m_isOrder_t h1 (by omega)), oz_bt (show f_Mod_isIn (nI m) (0 : Int32) (3 : Int32) = some true from m_isIn_t (l := 0) (h := 3) (by omega) m2 (by omega)), oz_th0, pl_3]
        by_cases c : m = 3
        · rw [if_pos c, oz_ile_t (by omega) (by omega), m_rodsOf V h1, Option.bind_some]
        · rw [if_neg c, oz_ile_f (by omega) (by omega), m_ofOrder (by omega) (by omega), Option.bind_some]
    · have ny : ∀ j, j ≤ 3 → ¬ (y = nI j) := fun j hj e => by
        rw [e, oz_lt (by omega) (by omega), oz_lt (by omega) (by omega)] at m1
        omega
      refine oz_ql I (e := 2) (k := 2) (s1 := s) ?_ oz_kp_rf rfl (by omega) (by omega) (fun x Ix => ?_)
      · unfold f_Main_order
        rw [c_nOrd_t C h1 (by omega), oz_tb_r]
        simp only [lf_lt]
        rw [if_neg (show ¬ (y = (0 : Int32)) from ny 0 (by omega)), if_neg (show ¬ (y = (1 : Int32)) from ny 1 (by omega)), if_neg (show ¬ (y = (2 : Int32)) from ny 2 (by omega)), if_neg (show ¬ (y = (3 : Int32)) from ny 3 (by omega))]
      · unfold f_Mod_order
        rw [oz_bt (m_isOrder_t h1 (by omega)), oz_bf (show f_Mod_isIn y (0 : Int32) (3 : Int32) = some false from m_isIn_o m1), oz_th2]
  · refine oz_ql I (e := 3) (k := 1) (s1 := s) ?_ oz_kp_rf rfl (by omega) (by omega) (fun x Ix => ?_)
    · unfold f_Main_order
      rw [c_nOrd_f C h1, oz_tb_l]
    · unfold f_Mod_order
      rw [oz_bf (m_isOrder_f h1), oz_th1]
theorem q_log (I : oz_I s a L n o E T len) (x y : Int32) : oz_An oz_H2 (f_Main_log x y s) (f_Mod_log x y) := by
  have V := oz_IV I
  have C := oz_IC I
  have hV := oz_v0 V
  unfold oz_V0 at hV
  rcases oz_isr y 0 3 (by omega) (by omega) with ⟨m, m1, m2, rfl, _⟩ | ⟨m1, _⟩
  · have hc : f_Main_log x (nI m) s = (f_Log_cellOf (10 + 21) x (nI m) s).bind (fun p1 => some (Sum.inr p1, s)) := by
      unfold f_Main_log
      rw [if_neg (show ¬ (nI m < (0 : Int32)) by rw [pl_0, oz_lt (by omega) (by omega)]; omega), if_pos (show nI m < (4 : Int32) by rw [pl_4, oz_lt (by omega) (by omega)]; omega)]
    rcases oz_isix x (a 11) (by omega) with ⟨k, h1, rfl, _⟩ | ⟨h1, _⟩
    · refine oz_qr0 I (v := nI (a (126 + (4 * k + m)))) (s1 := s) ?_ oz_kp_rf (fun x Ix => ?_)
      · rw [hc, c_cellOf V C.2.2.2.2.2.1 h1 (by omega), Option.bind_some]
      · unfold f_Mod_log
        rw [oz_bt (show f_Mod_isIn (nI m) (0 : Int32) (3 : Int32) = some true from m_isIn_t (l := 0) (h := 3) (by omega) m2 (by omega)), oz_th0, pl_11, oz_ck (by omega) (by omega), oz_md_r, pl_1, oz_bt (show f_Mod_isIn (nI k) (0 : Int32) (nI (a 11) - nI 1) = some true from m_isIx_t h1 (by omega)), m_logged (by omega) (by omega), Option.bind_some]
    · refine oz_qr0 I (v := oz_N) (s1 := s) ?_ oz_kp_rf (fun x' Ix => ?_)
      · rw [hc]
        unfold f_Log_cellOf
        rw [C.2.2.2.2.2.1.1]
        by_cases c : x < 0
        · rw [if_pos c]; rfl
        · rw [if_neg c, if_neg (by
            rcases h1 with h1 | ⟨_, h1⟩
            · exact absurd h1 c
            · intro z
              by_cases c0 : a 11 = 0
              · rw [c0] at z
                exact c z
              · rw [oz_sub (by omega)] at h1
                rw [Int32.lt_iff_toInt_lt, oz_ti (by omega)] at z h1
                omega)]
          rfl
      · unfold f_Mod_log
        rw [oz_bt (show f_Mod_isIn (nI m) (0 : Int32) (3 : Int32) = some true from m_isIn_t (l := 0) (h := 3) (by omega) m2 (by omega)), oz_th0, pl_11, oz_ck (by omega) (by omega), oz_md_r, pl_1, oz_bf (show f_Mod_isIn x (0 : Int32) (nI (a 11) - nI 1) = some false from m_isIn_o h1)]
        rfl
  · refine oz_ql I (e := 2) (k := 1) (s1 := s) ?_ oz_kp_rf rfl (by omega) (by omega) (fun x' Ix => ?_)
    · unfold f_Main_log
      by_cases c : y < 0
      · rw [if_pos c]
      · rw [if_neg c, if_neg (by
          rcases m1 with m1 | ⟨_, m1⟩
          · exact absurd m1 c
          · intro z
            rw [pl_4, Int32.lt_iff_toInt_lt, oz_ti (by omega)] at z
            rw [Int32.lt_iff_toInt_lt, oz_ti (by omega)] at m1
            omega)]
    · unfold f_Mod_log
      rw [oz_bf (show f_Mod_isIn y (0 : Int32) (3 : Int32) = some false from m_isIn_o m1), oz_th1]
end
