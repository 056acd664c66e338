/-! ===== the other queries answered ===== -/
section
variable {s : lf_S} {a : Nat → Nat} {L : List (Nat × Nat × List Nat)} {n o : Nat} {E : Nat → Nat → Nat} {T : Nat → Nat} {len : Nat}
/-! those that answer yes or no -/
theorem oz_bql {H : Nat → Option Int32} {F : Option ((Nat ⊕ Bool) × lf_S)} {G : lf_S → Option (Bool × lf_S)} {e k : Nat} (I : oz_I s a L n o E T len) (hF : F = some (Sum.inl e, s)) (hH : H e = some (nI k)) (k1 : 1 ≤ k) (k2 : k < 10) (hG : G (oz_md s a) = some (false, oz_md (lf_w s 389 0 (nI k)) a)) : oz_AnB H F G := by
  have e1 := I.1
  refine Or.inr ⟨e, k, s, hF, hH, k1, k2, false, oz_md (lf_w s 389 0 (nI k)) a, ?_, by rw [oz_md_o (by omega), oz_w_s], oz_Inv_kp I (oz_kp_md e1 (oz_fr_w (by omega)) (fun j hj => oz_w_n (by omega)))⟩
  conv => lhs; rw [e1]
  exact hG
theorem oz_bqr {H : Nat → Option Int32} {F : Option ((Nat ⊕ Bool) × lf_S)} {G : lf_S → Option (Bool × lf_S)} {v : Bool} (I : oz_I s a L n o E T len) (hF : F = some (Sum.inr v, s)) (hG : ∀ x, oz_I x a L n o E T len → ∃ w, G (oz_md x a) = some (v, oz_md w a) ∧ w.1 389 0 = nI 0 ∧ oz_fr (fun p => p = 389) x w ∧ ∀ j, j ≠ 0 → w.1 389 j = x.1 389 j) : oz_AnB H F G := by
  refine Or.inl ⟨v, s, hF, fun x hx => ?_⟩
  have Ix := oz_I_kp I (oz_kp_1 hx)
  obtain ⟨w, g1, g2, g3, g4⟩ := hG x Ix
  have e1 := Ix.1
  refine ⟨oz_md w a, ?_, by rw [oz_md_o (by omega)]; exact g2, g3.2, oz_Inv_kp Ix (oz_kp_md e1 (oz_fr_mono g3 (by omega)) (fun j hj => g4 j (by omega)))⟩
  conv => lhs; rw [e1]
  exact g1
theorem oz_ex0 {x : lf_S} : (oz_md (lf_w x 389 0 (nI 0)) a).1 389 0 = 0 := by
  rw [oz_md_o (by omega), oz_w_s]
  rfl
theorem oz_exk {x : lf_S} {k : Nat} (h : 1 ≤ k) (h2 : k < 10) : ¬ ((oz_md (lf_w x 389 0 (nI k)) a).1 389 0 = 0) := by
  rw [oz_md_o (by omega), oz_w_s, pl_0, oz_eq (by omega) (by omega)]
  omega
theorem q_sound (I : oz_I s a L n o E T len) (x : Int32) : oz_AnB oz_H3 (f_Main_sound x s) (f_Mod_sound x) := by
  have V := oz_IV I
  have C := oz_IC I
  have K := C.2.2.1
  have hv := oz_V6 V
  rcases oz_isix x (a 4) (by omega) with ⟨k, h1, rfl, _⟩ | ⟨h1, _⟩
  · have v2 := oz_v2 V h1
    unfold oz_V2 at v2
    have ll := oz_loose_lt (a := a) (k := k) (n := oz_bas a k 0) (by omega)
    refine oz_bqr I (v := decide (oz_loose a k (oz_bas a k 0) = 0)) ?_ (fun x Ix => ⟨lf_w x 389 0 (nI 0), ?_, oz_w_s, oz_fr_w rfl, fun j hj => oz_w_n hj⟩)
    · unfold f_Main_sound
      rw [c_needBasket_t C h1 (by omega), oz_tb_r, oz_ck (by omega) (by omega), show s.1 (10 + 6 + 1) k = nI (oz_bas a k 0) from k_1 K h1, c_looseOf V K h1 (by omega), Option.bind_some]
      by_cases c : oz_loose a k (oz_bas a k 0) = 0
      · rw [decide_eq_true c, c, if_pos (show nI 0 = (0 : Int32) from rfl)]
      · rw [decide_eq_false c, if_neg (show ¬ (nI (oz_loose a k (oz_bas a k 0)) = (0 : Int32)) by rw [pl_0, oz_eq (by omega) (by omega)]; exact c)]
    · unfold f_Mod_sound
      rw [oz_bt (m_isBasket_t h1 (by omega))]
      simp only [lf_lt]
      rw [oz_go0w, if_pos oz_ex0, m_loose V h1, Option.bind_some]
      by_cases c : oz_loose a k (oz_bas a k 0) = 0
      · rw [decide_eq_true c, c, if_pos (show nI 0 = (0 : Int32) from rfl)]
      · rw [decide_eq_false c, if_neg (show ¬ (nI (oz_loose a k (oz_bas a k 0)) = (0 : Int32)) by rw [pl_0, oz_eq (by omega) (by omega)]; exact c)]
  · refine oz_bql I (e := 3) (k := 1) ?_ rfl (by omega) (by omega) ?_
    · unfold f_Main_sound
      rw [c_needBasket_f C h1, oz_tb_l]
    · unfold f_Mod_sound
      rw [oz_bf (m_isBasket_f h1)]
      simp only [lf_lt]
      rw [oz_go1w, if_neg (oz_exk (by omega) (by omega))]
theorem q_over (I : oz_I s a L n o E T len) (x y z : Int32) : oz_AnB oz_H30 (f_Main_over x y z s) (f_Mod_over x y z) := by
  have V := oz_IV I
  have C := oz_IC I
  have K := C.2.2.1
  have hv := oz_V6 V
  rcases oz_isix x (a 4) (by omega) with ⟨k, h1, rfl, _⟩ | ⟨h1, _⟩
  · have v2 := oz_v2 V h1
    unfold oz_V2 at v2
    have e2w : ∀ t : lf_S, lf_w (oz_md t a) 389 0 (2 : Int32) = oz_md (lf_w t 389 0 (nI 2)) a := fun t => oz_md_wo (by omega)
    have ww : ∀ (t : lf_S) (u v : Int32), lf_w (lf_w t 389 0 u) 389 0 v = lf_w t 389 0 v := fun t u v => oz_w_w
    have neg : ∀ {w : Int32} {m : Nat}, m < 100 → (w < nI 0 ∨ (¬ w < nI 0 ∧ nI m - nI 1 < w)) → 1 ≤ m → w < 0 ∨ (¬ w < 0 ∧ nI m ≤ w) := by
      intro w m hm h hm1
      rcases h with h | ⟨h, h2⟩
      · exact Or.inl h
      · refine Or.inr ⟨h, ?_⟩
        rw [oz_sub hm1, Int32.lt_iff_toInt_lt, oz_ti (by omega)] at h2
        rw [Int32.le_iff_toInt_le, oz_ti (by omega)]
        omega
    rcases oz_isix y (oz_bas a k 1) (by omega) with ⟨r, r1, rfl, _⟩ | ⟨r1, _⟩
    · rcases oz_isix z (oz_bas a k 0) (by omega) with ⟨t, t1, rfl, _⟩ | ⟨t1, _⟩
      · have hp : r * oz_bas a k 0 ≤ 20 * 24 := Nat.mul_le_mul (by omega) (by omega)
        refine oz_bqr I (v := oz_ov a k (r * oz_bas a k 0 + t)) ?_ (fun x Ix => ⟨lf_w x 389 0 (nI 0), ?_, oz_w_s, oz_fr_w rfl, fun j hj => oz_w_n hj⟩)
        · unfold f_Main_over
          rw [c_needBasket_t C h1 (by omega), oz_tb_r, oz_ck (by omega) (by omega)]
          simp only [lf_lt]
          rw [show s.1 (10 + 6 + 1) k = nI (oz_bas a k 0) from k_1 K h1, pl_0, oz_ilt_f (by omega) (by omega), oz_ck (by omega) (by omega), show s.1 (10 + 6 + 2) k = nI (oz_bas a k 1) from k_2 K h1, oz_ile_f r1 (by omega), oz_ilt_f (by omega) (by omega), oz_ilt_t t1 (by omega), pk_mul, nI_add, c_over V K h1 (by omega), Option.bind_some]
        · unfold f_Mod_over
          rw [oz_bt (m_isBasket_t h1 (by omega)), oz_th0, pl_1, m_ofBasket (by omega) (by omega), Option.bind_some, oz_bt (show f_Mod_isIn (nI r) (0 : Int32) (nI (oz_bas a k 1) - nI 1) = some true from m_isIx_t r1 (by omega)), show f_Mod_ofBasket (nI k) (0 : Int32) (oz_md (lf_w x 389 0 (nI 0)) a) = some (nI (oz_bas a k 0)) from m_ofBasket (w := 0) (by omega) (by omega), Option.bind_some, oz_bt (show f_Mod_isIn (nI t) (0 : Int32) (nI (oz_bas a k 0) - nI 1) = some true from m_isIx_t t1 (by omega))]
          simp only [lf_lt]
          rw [oz_go0w, ww, if_pos oz_ex0, show f_Mod_ofBasket (nI k) (0 : Int32) (oz_md (lf_w x 389 0 (nI 0)) a) = some (nI (oz_bas a k 0)) from m_ofBasket (w := 0) (by omega) (by omega), Option.bind_some, pk_mul, nI_add, m_isOver V h1 (by omega), Option.bind_some]
          cases oz_ov a k (r * oz_bas a k 0 + t) <;> rfl
      · refine oz_bql I (e := 0) (k := 2) ?_ rfl (by omega) (by omega) ?_
        · have hn := neg (by omega) t1 (by omega)
          unfold f_Main_over
          rw [c_needBasket_t C h1 (by omega), oz_tb_r, oz_ck (by omega) (by omega)]
          simp only [lf_lt]
          rw [show s.1 (10 + 6 + 1) k = nI (oz_bas a k 0) from k_1 K h1, if_neg (show ¬ (nI r < (0 : Int32)) by rw [pl_0, oz_lt (by omega) (by omega)]; omega), oz_ck (by omega) (by omega), show s.1 (10 + 6 + 2) k = nI (oz_bas a k 1) from k_2 K h1, oz_ile_f r1 (by omega)]
          rcases hn with hn | ⟨hn, hn2⟩
          · rw [if_pos hn]
          · rw [if_neg hn, if_neg (fun w => by rw [Int32.le_iff_toInt_le] at hn2; rw [Int32.lt_iff_toInt_lt] at w; omega)]
        · unfold f_Mod_over
          rw [oz_bt (m_isBasket_t h1 (by omega)), oz_th0, pl_1, m_ofBasket (by omega) (by omega), Option.bind_some, oz_bt (show f_Mod_isIn (nI r) (0 : Int32) (nI (oz_bas a k 1) - nI 1) = some true from m_isIx_t r1 (by omega)), show f_Mod_ofBasket (nI k) (0 : Int32) (oz_md (lf_w s 389 0 (nI 0)) a) = some (nI (oz_bas a k 0)) from m_ofBasket (w := 0) (by omega) (by omega), Option.bind_some, oz_bf (show f_Mod_isIn z (0 : Int32) (nI (oz_bas a k 0) - nI 1) = some false from m_isIn_o t1)]
          simp only [lf_lt]
          rw [e2w, ww, if_neg (oz_exk (by omega) (by omega))]
    · refine oz_bql I (e := 0) (k := 2) ?_ rfl (by omega) (by omega) ?_
      · have hn := neg (by omega) r1 (by omega)
        unfold f_Main_over
        rw [c_needBasket_t C h1 (by omega), oz_tb_r, oz_ck (by omega) (by omega)]
        simp only [lf_lt]
        rw [show s.1 (10 + 6 + 1) k = nI (oz_bas a k 0) from k_1 K h1, oz_ck (by omega) (by omega), show s.1 (10 + 6 + 2) k = nI (oz_bas a k 1) from k_2 K h1]
        rcases hn with hn | ⟨hn, hn2⟩
        · rw [if_pos hn]
        · rw [if_neg hn, if_pos hn2]
      · unfold f_Mod_over
        rw [oz_bt (m_isBasket_t h1 (by omega)), oz_th0, pl_1, m_ofBasket (by omega) (by omega), Option.bind_some, oz_bf (show f_Mod_isIn y (0 : Int32) (nI (oz_bas a k 1) - nI 1) = some false from m_isIn_o r1)]
        simp only [lf_lt]
        rw [e2w, ww, if_neg (oz_exk (by omega) (by omega))]
  · refine oz_bql I (e := 3) (k := 1) ?_ rfl (by omega) (by omega) ?_
    · unfold f_Main_over
      rw [c_needBasket_f C h1, oz_tb_l]
    · unfold f_Mod_over
      rw [oz_bf (m_isBasket_f h1), oz_th1]
end
