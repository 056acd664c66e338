/-! ===== the other queries answered ===== -/
section
variable {s : lf_S} {a : Nat → Nat} {L : List (Nat × Nat × List Nat)} {n o : Nat} {E : Nat → Nat → Nat} {T : Nat → Nat} {len : Nat}
theorem q_rests (I : oz_I s a L n o E T len) (x : Int32) : oz_An oz_H3 (f_Main_rests x s) (f_Mod_rests x) := by
  have V := oz_IV I
  have C := oz_IC I
  have W := oz_IW I
  have hv := oz_V6 V
  rcases oz_isix x (a 3) (by omega) with ⟨k, h1, rfl, _⟩ | ⟨h1, _⟩
  · have v1 := oz_v1 V h1
    unfold oz_V1 at v1
    have hr : oz_rc a L k ≤ 6 := Nat.min_le_left _ _
    have ng := oz_negle (d := oz_bed a k 3) (r := oz_rc a L k) (by omega) (by omega)
    obtain ⟨u, g1, g2⟩ := c_reachOf V C (Or.inl (by omega)) h1 W
    refine oz_qr I (v := nI (oz_rest a L k)) (s1 := u) ?_ (oz_kp39 g2) (fun x Ix => ?_)
    · have e0 : (0 : Int32) - nI (oz_bed a k 3) = -nI (oz_bed a k 3) := by
        rw [Int32.sub_eq_add_neg]
        exact Int32.zero_add _
      have B : oz_CB u 11 a := (oz_C_fr V C (fun p p1 p2 => g2.1 p (by omega))).2.1
      have b4 : u.1 15 k = nI (oz_bed a k 3) := b_4 B h1
      have b2 : u.1 13 k = nI (oz_bed a k 1) := b_2 B h1
      unfold f_Main_rests
      rw [c_nBed_t C h1 (by omega), oz_tb_r, g1, Option.bind_some]
      simp only [lf_lt]
      rw [oz_ck (by omega) (by omega), show u.1 (10 + 1 + 4) k = nI (oz_bed a k 3) from b4, e0, oz_ck (by omega) (by omega), show u.1 (10 + 1 + 2) k = nI (oz_bed a k 1) from b2]
      have r0 : f_Main_restBit (0 : Int32) (nI (oz_rc a L k)) (-nI (oz_bed a k 3)) (1 : Int32) (0 : Int32) = some (nI 1) := by
        unfold f_Main_restBit
        rw [if_neg (of_eq_false ng.1), if_neg (by decide +kernel)]
        decide +kernel
      have r1 : ∀ c d : Int32, f_Main_restBit (1 : Int32) c d (0 : Int32) (1 : Int32) = some (nI 0) := fun c d => by
        unfold f_Main_restBit
        rw [if_pos (show (0 : Int32) < 1 by decide +kernel)]
        split <;> rfl
      have r2 : f_Main_restBit (2 : Int32) (-nI (oz_bed a k 3)) (nI (oz_rc a L k)) (3 : Int32) (2 : Int32) = some (nI (if oz_bed a k 3 = 0 ∧ oz_rc a L k = 0 then 4 else 0)) := by
        unfold f_Main_restBit
        rw [if_neg (show ¬ ((3 : Int32) < 2) by decide +kernel)]
        by_cases c : oz_bed a k 3 = 0 ∧ oz_rc a L k = 0
        · rw [if_pos c, if_neg (by rw [ng.2]; exact fun z => z c)]
          decide +kernel
        · rw [if_neg c, if_pos (by rw [ng.2]; exact c)]
          rfl
      have r3 : ∀ c d : Int32, f_Main_restBit (3 : Int32) c d (2 : Int32) (3 : Int32) = some (nI 0) := fun c d => by
        unfold f_Main_restBit
        rw [if_pos (show (2 : Int32) < 3 by decide +kernel)]
        split <;> rfl
      rw [r0, Option.bind_some, r1, Option.bind_some, r2, Option.bind_some, r3, Option.bind_some]
      unfold oz_rest
      by_cases c : oz_bed a k 3 = 0 ∧ oz_rc a L k = 0
      · rw [if_pos c, if_pos c]
        have : nI 1 ||| nI 0 ||| nI 4 ||| nI 0 = nI 5 := by decide +kernel
        rw [this]
      · rw [if_neg c, if_neg c]
        have : nI 1 ||| nI 0 ||| nI 0 ||| nI 0 = nI 1 := by decide +kernel
        rw [this]
    · have W0 := oz_LW_w0 (v := nI 0) (oz_IW Ix)
      obtain ⟨t1, p1, p2, p3⟩ := m_heHas V h1 W0 (x := 1) (y := 0) (by omega) (by omega)
      obtain ⟨t2, q1, q2, q3⟩ := m_heHas V h1 p3 (x := 0) (y := 0) (by omega) (by omega)
      obtain ⟨t3, d1, d2, d3⟩ := m_heHas V h1 q3 (x := 1) (y := 1) (by omega) (by omega)
      obtain ⟨t4, e1, e2, e3⟩ := m_heHas V h1 d3 (x := 0) (y := 1) (by omega) (by omega)
      obtain ⟨t5, i1, i2, i3⟩ := m_heHas V h1 e3 (x := 0) (y := 0) (by omega) (by omega)
      obtain ⟨t6, j1, j2, j3⟩ := m_heHas V h1 i3 (x := 1) (y := 0) (by omega) (by omega)
      obtain ⟨t7, l1, l2, l3⟩ := m_heHas V h1 j3 (x := 0) (y := 1) (by omega) (by omega)
      obtain ⟨t8, m1, m2, m3⟩ := m_heHas V h1 l3 (x := 1) (y := 1) (by omega) (by omega)
      have all := oz_ak_tr p2 (oz_ak_tr q2 (oz_ak_tr d2 (oz_ak_tr e2 (oz_ak_tr i2 (oz_ak_tr j2 (oz_ak_tr l2 m2))))))
      refine ⟨t8, ?_, oz_ak_q all⟩
      have rv : f_Mod_riverHas (nI 0) (nI 0) = some (nI 1) ∧ f_Mod_riverHas (nI 0) (nI 1) = some (nI 0) ∧ f_Mod_riverHas (nI 1) (nI 0) = some (nI 3) ∧ f_Mod_riverHas (nI 1) (nI 1) = some (nI 2) := by decide +kernel
      obtain ⟨rv0, rv1, rv2, rv3⟩ := rv
      have h00 : oz_he a L k 0 0 = nI (oz_rc a L k) := rfl
      have h10 : oz_he a L k 1 0 = -nI (oz_bed a k 3) := rfl
      have ad : nI 0 + nI 1 = nI 1 ∧ nI 1 + nI 1 = nI 2 ∧ nI 2 + nI 1 = nI 3 ∧ nI 3 + nI 1 = nI 4 := by decide +kernel
      obtain ⟨ad0, ad1, ad2, ad3⟩ := ad
      have dv : nI 0 / nI 2 = nI 0 ∧ nI 0 % nI 2 = nI 0 ∧ nI 1 / nI 2 = nI 0 ∧ nI 1 % nI 2 = nI 1 ∧ nI 2 / nI 2 = nI 1 ∧ nI 2 % nI 2 = nI 0 ∧ nI 3 / nI 2 = nI 1 ∧ nI 3 % nI 2 = nI 1 ∧ nI 1 - nI 0 = nI 1 ∧ nI 1 - nI 1 = nI 0 := by decide +kernel
      obtain ⟨dv0, dv1, dv2, dv3, dv4, dv5, dv6, dv7, dv8, dv9⟩ := dv
      -- the four turns
      have s0 : ∀ f, f_Mod_rests_30 (nI k) (f + 1) (nI 0) (nI 0) (oz_md (lf_w x 389 0 (nI 0)) a) = f_Mod_rests_30 (nI k) f (nI 1) (nI 1) (oz_md t2 a) := by
        intro f
        rw [f_Mod_rests_30, if_neg (by decide +kernel)]
        simp only [lf_lt]
        rw [pl_1, pl_2, dv0, dv1, dv8, p1, Option.bind_some, q1, Option.bind_some, h00, h10, if_neg (of_eq_false ng.1), rv1, Option.bind_some, rv0, Option.bind_some, if_neg (by decide +kernel), pl_31, ad0]
        have : nI 0 ||| (nI 1 <<< (nI 0 &&& nI 31)) = nI 1 := by decide +kernel
        rw [this]
      have s1 : ∀ f, f_Mod_rests_30 (nI k) (f + 1) (nI 1) (nI 1) (oz_md t2 a) = f_Mod_rests_30 (nI k) f (nI 1) (nI 2) (oz_md t4 a) := by
        intro f
        rw [f_Mod_rests_30, if_neg (by decide +kernel)]
        simp only [lf_lt]
        rw [pl_1, pl_2, dv2, dv3, dv8, d1, Option.bind_some, e1, Option.bind_some, dv9, rv0, Option.bind_some, rv1, Option.bind_some, ad1]
        have : nI 0 < nI 1 := by decide +kernel
        rw [if_pos this, ite_self]
      have s2 : ∀ f, f_Mod_rests_30 (nI k) (f + 1) (nI 1) (nI 2) (oz_md t4 a) = f_Mod_rests_30 (nI k) f (nI (oz_rest a L k)) (nI 3) (oz_md t6 a) := by
        intro f
        rw [f_Mod_rests_30, if_neg (by decide +kernel)]
        simp only [lf_lt]
        rw [pl_1, pl_2, dv4, dv5, dv9, i1, Option.bind_some, j1, Option.bind_some, h00, h10, dv8, rv3, Option.bind_some, rv2, Option.bind_some, ad2]
        have : ¬ (nI 3 < nI 2) := by decide +kernel
        rw [if_neg this]
        unfold oz_rest
        by_cases c : oz_bed a k 3 = 0 ∧ oz_rc a L k = 0
        · rw [if_pos c, if_neg (by rw [ng.2]; exact fun z => z c), pl_31]
          have : nI 1 ||| (nI 1 <<< (nI 2 &&& nI 31)) = nI 5 := by decide +kernel
          rw [this]
        · rw [if_neg c, if_pos (by rw [ng.2]; exact c)]
      have s3 : ∀ f, f_Mod_rests_30 (nI k) (f + 1) (nI (oz_rest a L k)) (nI 3) (oz_md t6 a) = f_Mod_rests_30 (nI k) f (nI (oz_rest a L k)) (nI 4) (oz_md t8 a) := by
        intro f
        rw [f_Mod_rests_30, if_neg (by decide +kernel)]
        simp only [lf_lt]
        rw [pl_1, pl_2, dv6, dv7, dv9, l1, Option.bind_some, m1, Option.bind_some, rv2, Option.bind_some, rv3, Option.bind_some, ad3]
        have : nI 2 < nI 3 := by decide +kernel
        rw [if_pos this, ite_self]
      unfold f_Mod_rests
      rw [oz_bt (m_isBed_t h1 (by omega)), oz_th0]
      simp only [lf_lt]
      rw [pl_0, show (5000 : Nat) = 4995 + 1 + 1 + 1 + 1 + 1 from rfl, s0, s1, s2, s3, f_Mod_rests_30, if_pos (by decide +kernel), Option.bind_some]
  · refine oz_ql I (e := 3) (k := 1) (s1 := s) ?_ oz_kp_rf rfl (by omega) (by omega) (fun x Ix => ?_)
    · unfold f_Main_rests
      rw [c_nBed_f C h1, oz_tb_l]
    · unfold f_Mod_rests
      rw [oz_bf (m_isBed_f h1), oz_th1]
end
