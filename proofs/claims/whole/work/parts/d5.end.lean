/-! ===== the first world keeps what is asked; the claim ===== -/
def oz_a0 : Nat → Nat := fun j => if j = 1 then 4294967295 else if j = 8 then 50 else if j = 12 then 1 else 0
theorem oz_a0_z {j : Nat} (h1 : j ≠ 1) (h8 : j ≠ 8) (h12 : j ≠ 12) : oz_a0 j = 0 := by
  unfold oz_a0
  rw [if_neg h1, if_neg h8, if_neg h12]
theorem oz_V_a0 : oz_V oz_a0 := by
  have z3 : oz_a0 3 = 0 := rfl
  have z4 : oz_a0 4 = 0 := rfl
  have z5 : oz_a0 5 = 0 := rfl
  have z6 : oz_a0 6 = 0 := rfl
  refine ⟨by unfold oz_V0; decide +kernel, fun b hb => ?_, fun k hk => ?_, fun h hh => ?_, fun o ho => ?_, fun f h1 h6 => ?_, fun i hi => ?_⟩
  · rw [z3] at hb; exact absurd hb (by omega)
  · rw [z4] at hk; exact absurd hk (by omega)
  · rw [z5] at hh; exact absurd hh (by omega)
  · rw [z6] at ho; exact absurd ho (by omega)
  · unfold oz_sto
    rw [oz_a0_z (by omega) (by omega) (by omega)]
    omega
  · rw [oz_a0_z (by omega) (by omega) (by omega)]
    omega
theorem oz_s0_v : oz_s0.1 10 6 = 0 ∧ oz_s0.1 10 7 = 0 ∧ oz_s0.1 10 8 = 50 ∧ oz_s0.1 10 9 = 0 ∧ oz_s0.1 10 10 = 1 ∧ oz_s0.1 10 11 = 0 ∧ oz_s0.1 11 0 = 0 ∧ oz_s0.1 16 0 = 0 ∧ oz_s0.1 25 0 = 0 ∧ oz_s0.1 28 0 = 0 ∧ oz_s0.1 28 1 = 0 ∧ oz_s0.1 31 0 = 0 := by decide +kernel
theorem oz_s0_v2 : oz_s0.1 34 0 = -1 ∧ oz_s0.1 1 1 = 0 ∧ oz_s0.1 1 2 = -1 ∧ oz_s0.1 389 8 = 0 ∧ oz_s0.1 389 12 = -1 ∧ oz_s0.1 0 10 = 0 ∧ oz_s0.1 0 9 = 0 ∧ oz_s0.1 0 11 = 0 ∧ oz_s0.1 389 6 = 0 ∧ oz_s0.1 389 3 = 0 := by decide +kernel
theorem oz_s0_33 : oz_s0.1 33 = ct_z := by rfl
theorem oz_s0_390 : oz_s0.1 390 = upd (upd (upd (fun _ => 0) 1 (Int32.ofInt (-1))) 8 (Int32.ofInt 50)) 12 (Int32.ofInt 1) := by rfl
theorem oz_row0 : oz_s0 = oz_md oz_s0 oz_a0 := by
  refine oz_S_ext (fun p => ?_) rfl
  by_cases c : p = 390
  · rw [c, oz_s0_390]
    show _ = oz_na oz_a0
    funext j
    show upd (upd (upd (fun _ => 0) 1 (Int32.ofInt (-1))) 8 (Int32.ofInt 50)) 12 (Int32.ofInt 1) j = nI (oz_a0 j)
    by_cases c1 : j = 1
    · subst c1; decide +kernel
    · by_cases c8 : j = 8
      · subst c8; decide +kernel
      · by_cases c12 : j = 12
        · subst c12; decide +kernel
        · rw [oz_a0_z c1 c8 c12]
          unfold upd
          rw [if_neg c12, if_neg c8, if_neg c1]
          rfl
  · rw [oz_md_o c]
theorem oz_Inv0 : oz_Inv oz_s0 := by
  obtain ⟨v1, v2, v3, v4, v5, v6, v7, v8, v9, v10, v11, v12⟩ := oz_s0_v
  obtain ⟨w1, w2, w3, w4, w5, w6, w7, w8, w9, w10⟩ := oz_s0_v2
  refine ⟨oz_a0, [], 0, 0, fun _ _ => 0, fun _ => 0, 0, oz_row0, oz_V_a0, ⟨⟨v1, v2, v3, v4, v5, v6⟩, ⟨v7, fun i hi => absurd (show i < 0 from hi) (by omega)⟩, ?_, ⟨v9, fun i hi => absurd (show i < 0 from hi) (by omega)⟩, ⟨v10, v11, fun i hi => absurd (show i < 0 from hi) (by omega)⟩, ⟨v12, fun g w hg _ => absurd (show g < 0 from hg) (by omega)⟩, ?_⟩, Or.inl ⟨rfl, rfl, w1⟩, ⟨w2, w4, by omega, fun i hi => absurd hi (by omega)⟩, w3.trans w5.symm, ⟨by omega, by omega, w6, w7, fun i hi => absurd hi (by omega)⟩, ⟨by omega, w9, fun i j hi _ => absurd hi (by omega)⟩, fun i hi => absurd hi (by omega), Or.inl ⟨w8, w10⟩⟩
  · exact ⟨v8, fun i hi => absurd (show i < 0 from hi) (by omega)⟩
  · intro f h1 h6
    rw [show 10 + 23 = 33 from rfl, oz_s0_33]
    unfold oz_sto
    rw [oz_a0_z (by omega) (by omega) (by omega)]
    rfl
theorem oz_pure : mj_pure := by
  intro sc hsc
  have h : lf_wp sc 1300 j_Lw_lawmain oz_QQ 0 [.ref mj_SC, mj_U, mj_U, mj_U, mj_U, mj_U, mj_U] [] [] true 601024 7293034 := by
    have l1 : (ct_m tb_Main).length = 389 := by
      unfold ct_m
      rw [List.length_map]
      decide +kernel
    have l2 : (ct_m tb_Main ++ ct_m (tb_Mod 389)).length = 404 := by
      rw [List.length_append, l1]
      rfl
    have hM := ct_Mod (sc := sc) (d := 1299) (ct_m tb_Main)
    rw [l1] at hM
    refine lf_blk B_Lw_lawmain_0 ?_
    refine ⟨rfl, by decide, by decide, ?_⟩
    refine ⟨_, _, rfl, Or.inr ⟨_, rfl⟩, ?_⟩
    refine ⟨0, [.ref 0], .inl none, ct_m tb_Main, true, 388, 7872, rfl, (by show (1 : Nat) ≤ 8; decide), by decide, by decide, ct_Main (d := 1297), ?_⟩
    refine ⟨.ref 0, [], rfl, Or.inr ⟨0, rfl⟩, Nat.le_of_ble_eq_true rfl, rfl, ?_⟩
    refine ⟨rfl, by decide, by decide, ?_⟩
    rw [l1]
    refine ⟨_, _, rfl, Or.inr ⟨_, rfl⟩, ?_⟩
    refine ⟨389, [.ref 389], .inl none, ct_m tb_Main ++ ct_m (tb_Mod 389), true, 14, 7672, rfl, (by show (1 : Nat) ≤ 8; decide), by decide, by decide, hM, ?_⟩
    refine ⟨.ref 389, [], rfl, Or.inr ⟨389, rfl⟩, Nat.le_of_ble_eq_true rfl, rfl, ?_⟩
    refine ⟨1, [], 2, .inr (.inl (fun _ => 0)), rfl, by decide, Or.inr (Or.inr ⟨rfl, rfl, rfl⟩), rfl, by decide, by decide, ?_⟩
    rw [l2]
    refine ⟨.ref 404, [], rfl, Or.inr ⟨404, rfl⟩, Nat.le_of_ble_eq_true rfl, rfl, ?_⟩
    refine ⟨_, _, rfl, Nat.le_of_ble_eq_true rfl, rfl, ?_⟩
    have e : (ct_m tb_Main ++ ct_m (tb_Mod 389)) ++ [.inl (2, 1, .inr (.inl (fun _ => 0)))] = lf_hp oz_s0 := by
      rw [ct_hp0]
      unfold ct_T0 ct_m
      rw [List.map_append, List.map_append, List.append_assoc]
      rfl
    rw [e]
    exact oz_loop (d := 1300) (by omega) hsc 512 0 oz_s0 true _ _ (by omega) (by omega) (by decide) (by decide) oz_Inv0
  exact h
theorem i_vc : Claimed_1_1 ∧ Claimed_1_2 := mj_claim oz_pure
