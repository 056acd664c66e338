/-! ===== pairs: the model's walk ===== -/
section
variable {s : lf_S} {a : Nat → Nat}
theorem m_pairs89_e (V : oz_V a) {x : lf_S} {set l : Nat} {c1 : Int32} (hs : set < 2 ^ a 3) (hl : l < a 3) (TB : ∀ z, z < 2 ^ a 3 → x.1 397 z = nI (oz_pw a z)) (he : oz_pw a (oz_clr set l) = oz_pw a set) : f_Mod_pairs_89 c1 (nI set) (nI l) (nI (oz_clr set l)) 5000 oz_N (oz_dw (a 3)) (oz_md x a) = some (oz_N, oz_md x a) := by
  have hv := oz_v0 V
  unfold oz_V0 at hv
  have hp := oz_pow6 hv.2.1
  have c1' := oz_clr_le set (by omega) l (by omega)
  have h64 := oz_clr_l set (by omega) l (by omega)
  obtain ⟨o, ho⟩ : ∃ o, a 3 = o + 1 := ⟨a 3 - 1, by omega⟩
  rw [ho, show oz_dw (o + 1) = nI o from rfl, f_Mod_pairs_89]
  by_cases cl : o ≤ l
  · rw [oz_ile_t cl (by omega)]
  · rw [oz_ile_f (by omega) (by omega), oz_ck (by omega) (by omega), oz_ck (by omega) (by omega), oz_md_o (by omega), TB _ (by have := c1'.1; omega), TB set hs, he, if_pos rfl]
theorem m_pairs58 (V : oz_V a) {x : lf_S} {k : Nat} (hk : k < a 3) (TB : ∀ z, z < 2 ^ a 3 → x.1 397 z = nI (oz_pw a z)) : ∀ N set A fuel, set ≤ N → set < 2 ^ a 3 → set.testBit k = true → A k = none → N < fuel → f_Mod_pairs_58 (nI k) fuel (nI set) (oz_md x a) = some (Sum.inr (oz_en (oz_pA a (a 3) 0 set.testBit A k), oz_md x a)) := by
  have hv := oz_v0 V
  unfold oz_V0 at hv
  have hp := oz_pow6 hv.2.1
  intro N
  induction N with
  | zero =>
    intro set A fuel h1 h2 h3 _ _
    obtain rfl : set = 0 := by omega
    rw [Nat.zero_testBit] at h3
    exact Bool.noConfusion h3
  | succ N ih =>
    intro set A fuel h1 h2 h3 hA hf
    obtain ⟨fuel, rfl⟩ : ∃ m, fuel = m + 1 := ⟨fuel - 1, by omega⟩
    have h0 : set ≠ 0 := by
      intro z
      rw [z, Nat.zero_testBit] at h3
      exact Bool.noConfusion h3
    have h64 : set < 64 := by omega
    have mlow := m_lowest h64 h0
    obtain ⟨l1, l2, l3⟩ := oz_low_s set h64 h0
    have ln := oz_tb_lt h2 l2
    generalize oz_low set = l at *
    obtain ⟨m, hm⟩ : ∃ m, l + (m + 1) = a 3 := ⟨a 3 - (l + 1), by omega⟩
    have c1 := oz_clr_le set h64 l l1
    have c1l := c1.2 l2
    have h64r := oz_clr_l set h64 l l1
    have eA : oz_pA a (a 3) 0 set.testBit A = oz_pA a (m + 1) l set.testBit A := by
      have := oz_pA_go (a := a) (F := set.testBit) (A := A) l (a 3) 0 (by omega) (by omega) (fun y _ hy => l3 y (by omega))
      rw [this, show a 3 - l = m + 1 by omega, Nat.zero_add]
    have eB : oz_pA a (m + 1) l set.testBit A = oz_pA a m (l + 1) (oz_wc set.testBit (oz_pp a (m + 1) l set.testBit).2) (oz_pu A l (oz_pp a (m + 1) l set.testBit).2) := rfl
    have wr := oz_pw_rest V h64 hm l3
    have ws := oz_pw_set V hm l3
    have kr : k ≠ l → (oz_clr set l).testBit k = true := fun z => by
      rw [oz_clr_b set h64 l l1 k (by omega), h3]
      have : (k == l) = false := by simpa using z
      rw [this]; rfl
    rw [eA, eB, f_Mod_pairs_58, pl_0, if_neg (by rw [oz_eq (by omega) (by omega)]; exact h0), mlow, Option.bind_some]
    simp only [lf_lt, pl_1, pl_31, pl_3, oz_neg1]
    rw [oz_clr_i set h64 l l1, oz_ck (by omega) (by omega), oz_md_r, oz_dw_s]
    rcases oz_pp_c (a := a) (m := m) (i := l) (F := set.testBit) with c | ⟨j, w, c, hj, hM, hw, hlt, hfirst⟩
    · rw [c] at ws ⊢
      rw [m_pairs89_e V h2 ln TB (wr.trans ws.symm), Option.bind_some]
      show _ = some (Sum.inr (oz_en (oz_pA a m (l + 1) set.testBit A k), oz_md x a))
      by_cases ck : l = k
      · rw [if_pos (by rw [ck]), oz_pA_st m (l + 1) _ A k (by omega) (Or.inl (by omega)), hA]
        rfl
      · rw [if_neg (by rw [oz_eq (by omega) (by omega)]; exact ck), if_neg (of_eq_false (oz_m1eq (by omega))), if_pos rfl, ih (oz_clr set l) A fuel (by omega) (by omega) (kr (fun z => ck z.symm)) hA (by omega)]
        have e1 := oz_pA_go (a := a) (F := (oz_clr set l).testBit) (A := A) (l + 1) (a 3) 0 (by omega) (by omega) (fun y _ hy => by
          rw [oz_clr_b set h64 l l1 y (by omega)]
          by_cases cy : y = l
          · rw [cy]; simp
          · rw [l3 y (by omega), Bool.false_and])
        rw [e1, show a 3 - (l + 1) = m by omega, show 0 + (l + 1) = l + 1 by omega, oz_pA_cg m (l + 1) _ set.testBit A (by omega) (fun y h1 h2 => by
          rw [oz_clr_b set h64 l l1 y (by omega)]
          have : (y == l) = false := by simp; omega
          rw [this]; simp)]
    · have hjj := oz_pM_j hM
      rw [c] at ws ⊢
      have ws' : oz_pw a set = w := ws
      have q1 : oz_qq a m l set j = true := by
        unfold oz_qq
        rw [hM, decide_eq_true (hw.symm.trans ws'.symm)]; rfl
      have q2 : ∀ o', o' < j → oz_qq a m l set o' = false := by
        intro o' ho'
        unfold oz_qq
        cases cM : oz_pM a l set.testBit o' with
        | false => rfl
        | true =>
          have := hfirst o' ho' cM
          rw [decide_eq_false (by rw [ws']; omega)]; rfl
      have m89 := m_pairs89 V (c1 := nI k) h2 hm l2 l3 TB (by rw [wr, ws']; omega) (a 3) 5000 none (by omega) (by omega)
      rw [oz_lo_is (a 3) none q1 q2 hj] at m89
      have ez : oz_en none = oz_N := rfl
      rw [ez] at m89
      rw [m89, Option.bind_some]
      have ej : oz_en (some j) = nI j := rfl
      rw [ej]
      show _ = some (Sum.inr (oz_en (oz_pA a m (l + 1) (oz_wo set.testBit j) (oz_uo (oz_uo A l (some j)) j (some l)) k), oz_md x a))
      by_cases ck : l = k
      · rw [if_pos (by rw [ck]), oz_pA_st m (l + 1) _ _ k (by omega) (Or.inl (by omega)), oz_uo_n (by omega), ck, oz_uo_s]
        rfl
      · rw [if_neg (by rw [oz_eq (by omega) (by omega)]; exact ck)]
        by_cases cj : j = k
        · have hst : oz_pA a m (l + 1) (oz_wo set.testBit j) (oz_uo (oz_uo A l (some j)) j (some l)) k = oz_uo (oz_uo A l (some j)) j (some l) k := oz_pA_st m (l + 1) _ _ k (by omega) (Or.inr (by
            unfold oz_wo
            have : (k == j) = true := by simpa using cj.symm
            rw [this]; simp))
          rw [if_pos (by rw [cj]), hst, cj, oz_uo_s]
          rfl
        · have c2 := oz_clr_le _ h64r j (by omega)
          rw [if_neg (by rw [oz_eq (by omega) (by omega)]; exact cj), if_neg (of_eq_false (oz_eqm1 (by omega))), oz_clr_i _ h64r j (by omega), ih (oz_clr (oz_clr set l) j) (oz_uo (oz_uo A l (some j)) j (some l)) fuel (by omega) (by omega) (by
            rw [oz_clr_b _ h64r j (by omega) k (by omega), kr (fun z => ck z.symm)]
            have : (k == j) = false := by simp; omega
            rw [this]; rfl) (by rw [oz_uo_n (by omega), oz_uo_n (by omega)]; exact hA) (by omega)]
          have e1 := oz_pA_go (a := a) (F := (oz_clr (oz_clr set l) j).testBit) (A := oz_uo (oz_uo A l (some j)) j (some l)) (l + 1) (a 3) 0 (by omega) (by omega) (fun y _ hy => by
            rw [oz_clr_b _ h64r j (by omega) y (by omega), oz_clr_b set h64 l l1 y (by omega)]
            by_cases cy : y = l
            · rw [cy]; simp
            · rw [l3 y (by omega), Bool.false_and, Bool.false_and])
          rw [e1, show a 3 - (l + 1) = m by omega, show 0 + (l + 1) = l + 1 by omega, oz_pA_cg m (l + 1) _ (oz_wo set.testBit j) _ (by omega) (fun y h1 h2 => by
            rw [oz_clr_b _ h64r j (by omega) y (by omega), oz_clr_b set h64 l l1 y (by omega)]
            have : (y == l) = false := by simp; omega
            rw [this]
            unfold oz_wo
            simp)]
theorem m_pairs (V : oz_V a) (x : Int32) : ∃ t, f_Mod_pairs x (oz_md s a) = some ((oz_pairs a x).elim (fun _ => nI 0) id, oz_md t a) ∧ t.1 389 0 = (oz_pairs a x).elim (fun _ => nI 1) (fun _ => nI 0) ∧ oz_fr (fun p => p = 389 ∨ p = 397) s t ∧ ∀ j, j ≠ 0 → t.1 389 j = s.1 389 j := by
  have hv := oz_v0 V
  unfold oz_V0 at hv
  have hp := oz_pow6 hv.2.1
  have hp1 : 1 ≤ 2 ^ a 3 := Nat.one_le_two_pow
  obtain ⟨t, k1, k2, k3⟩ := m_allBest (s := lf_w s 389 0 (nI 0)) V
  have fin : t.1 389 0 = nI 0 ∧ oz_fr (fun p => p = 389 ∨ p = 397) s t ∧ ∀ j, j ≠ 0 → t.1 389 j = s.1 389 j := ⟨by rw [k3.1 389 (by omega)]; exact oz_w_s, oz_fr_tr (oz_fr_w (by omega)) (oz_fr_mono k3 (by omega)), fun j hj => by rw [k3.1 389 (by omega)]; exact oz_w_n hj⟩
  have hall : ∀ y, y < a 3 → (2 ^ a 3 - 1).testBit y = true := fun y hy => by
    rw [Nat.testBit_two_pow_sub_one]; exact decide_eq_true hy
  unfold f_Mod_pairs oz_pairs
  rw [pl_1, oz_neg1]
  by_cases c : x = oz_N
  · simp only [if_pos c, lf_lt, pl_0, oz_md_wo (show 389 ≠ 390 by omega)]
    refine ⟨t, ?_, fin.1, fin.2.1, fin.2.2⟩
    rw [oz_md_o (by omega), oz_w_s, oz_ile_t (by omega) (by omega), k1, Option.bind_some, pl_3, oz_ck (by omega) (by omega), oz_md_r, pl_31, oz_shl1 (by omega), oz_sub (by omega), oz_ck (by omega) (by omega), oz_md_o (by omega), k2 _ (by omega)]
    unfold oz_pw
    rw [oz_pp_cg (a 3) 0 _ oz_all1 (by omega) (fun y _ hy => hall y hy)]
    rfl
  · simp only [if_neg c, lf_lt, pl_0, oz_md_wo (show 389 ≠ 390 by omega)]
    rcases oz_isix x (a 3) (by omega) with ⟨k, h1, h2, h3⟩ | ⟨h1, h2⟩
    · have hf : 0 ≤ ((k : Nat) : Int) ∧ ((k : Nat) : Int) < ((a 3 : Nat) : Int) := by omega
      rw [h3, if_pos hf, h2, m_isBed_t h1 (by omega), Option.bind_some, if_pos rfl, oz_md_o (by omega), oz_w_s, oz_ile_t (by omega) (by omega), k1, Option.bind_some, pl_3, oz_ck (by omega) (by omega), oz_md_r, pl_31, oz_shl1 (by omega), oz_sub (by omega)]
      refine ⟨t, ?_, fin.1, fin.2.1, fin.2.2⟩
      rw [m_pairs58 V h1 k2 64 (2 ^ a 3 - 1) oz_zn 5000 (by omega) (by omega) (hall k h1) rfl (by omega), oz_pA_cg (a 3) 0 _ oz_all1 _ (by omega) (fun y _ hy => hall y hy)]
      rfl
    · rw [if_neg h2, m_isBed_f h1, Option.bind_some, if_neg Bool.noConfusion, oz_md_o (by omega), oz_w_s, oz_ile_f (by omega) (by omega)]
      exact ⟨_, rfl, oz_w_s, oz_fr_w (by omega), fun j hj => oz_w_n hj⟩
end
