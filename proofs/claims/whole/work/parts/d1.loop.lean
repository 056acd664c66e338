/-! ===== the law runs through ===== -/
theorem B_Lw_lawmain_0 : mj_bl j_Lw_lawmain 0 = some ([(0, .new 9), (3, .dup), (4, .invokespecial 2336), (7, .astore 1), (8, .new 10), (11, .dup), (12, .invokespecial 8783168), (15, .astore 2), (16, .iconst 1), (17, .newarray .long), (19, .astore 3), (20, .iconst 0), (21, .istore 4)], 23) := by rfl
theorem B_Lw_lawmain_23 : mj_bl j_Lw_lawmain 23 = some ([(23, .iload 4), (25, .aload 0), (26, .arraylength), (27, .iconst 6), (29, .isub), (30, .if_icmp .gt 3147), (33, .aload 0), (34, .iload 4), (36, .iaload), (37, .iconst 63), (39, .iand), (40, .tableswitch 3141 0 52 #[268, 341, 366, 410, 454, 467, 535, 603, 671, 758, 821, 877, 961, 1029, 1085, 1141, 1209, 1277, 1345, 1381, 1449, 1517, 1573, 1629, 1697, 1765, 1778, 1791, 1847, 1915, 1987, 2031, 2087, 2143, 2211, 2279, 2335, 2391, 2459, 2515, 2556, 2569, 2625, 2638, 2734, 2818, 2902, 2986, 3054, 3079, 3092, 3103, 3116])], 268) := by rfl
theorem B_Lw_lawmain_3141 : mj_bl j_Lw_lawmain 3141 = some ([(3141, .iinc 4 (6)), (3144, .goto 23)], 3147) := by rfl
theorem B_Lw_lawmain_3147 : mj_bl j_Lw_lawmain 3147 = some ([(3147, .iconst 1), (3148, .ireturn)], 3149) := by rfl
def oz_QQ : mj_Q := fun o _ _ => o = .inl (some (.int 1))
def oz_off : Array Int := #[268, 341, 366, 410, 454, 467, 535, 603, 671, 758, 821, 877, 961, 1029, 1085, 1141, 1209, 1277, 1345, 1381, 1449, 1517, 1573, 1629, 1697, 1765, 1778, 1791, 1847, 1915, 1987, 2031, 2087, 2143, 2211, 2279, 2335, 2391, 2459, 2515, 2556, 2569, 2625, 2638, 2734, 2818, 2902, 2986, 3054, 3079, 3092, 3103, 3116]
section
variable {sc : Nat × (Nat → Int32)} {d i n : Nat} {s : lf_S} {cl : Bool} {rc rs : Nat}
theorem oz_swt (hd : 300 ≤ d) (hi : i + 6 ≤ sc.1) (hsc : sc.1 ≤ 3072) (hrc : n + 1 ≤ rc) (hrs : 6 * (n + 1) ≤ rs) (hI : oz_Inv s) (hN : ∀ p cl' rc' rs', oz_Inv p → n ≤ rc' → 6 * n ≤ rs' → lf_wp sc d j_Lw_lawmain oz_QQ 3141 [.ref mj_SC, .ref 0, .ref 389, .ref 404, .int (nI i), mj_U, mj_U] [] (lf_hp p) cl' rc' rs') : ∀ j, j < 53 → ∃ t : Int, oz_off[j]? = some t ∧ lf_wp sc d j_Lw_lawmain oz_QQ t.toNat [.ref mj_SC, .ref 0, .ref 389, .ref 404, .int (nI i), mj_U, mj_U] [] (lf_hp s) cl rc rs := by
  intro j hj
  match j, hj with
  | 0, _ =>
    obtain ⟨p, h1, h2⟩ := K_0 hI (sc.2 (i + 1)) (sc.2 (i + 2)) (sc.2 (i + 3)) (sc.2 (i + 4)) (sc.2 (i + 5))
    exact ⟨268, rfl, s_case_0 hd hi hsc (by omega) (by omega) h1 (fun cl' rc' rs' a b => hN p cl' rc' rs' h2 (by omega) (by omega))⟩
  | 1, _ =>
    obtain ⟨p, h1, h2⟩ := K_1 hI (sc.2 (i + 1))
    exact ⟨341, rfl, s_case_1 hd hi hsc (by omega) (by omega) h1 (fun cl' rc' rs' a b => hN p cl' rc' rs' h2 (by omega) (by omega))⟩
  | 2, _ =>
    obtain ⟨p, h1, h2⟩ := K_2 hI
    exact ⟨366, rfl, s_case_2 hd hi hsc (by omega) (by omega) h1 (fun cl' rc' rs' a b => hN p cl' rc' rs' h2 (by omega) (by omega))⟩
  | 3, _ =>
    obtain ⟨p, h1, h2⟩ := K_3 hI
    exact ⟨410, rfl, s_case_3 hd hi hsc (by omega) (by omega) h1 (fun cl' rc' rs' a b => hN p cl' rc' rs' h2 (by omega) (by omega))⟩
  | 4, _ =>
    obtain ⟨p, h1, h2⟩ := K_4 hI
    exact ⟨454, rfl, s_case_4 hd hi hsc (by omega) (by omega) h1 (fun cl' rc' rs' a b => hN p cl' rc' rs' h2 (by omega) (by omega))⟩
  | 5, _ =>
    obtain ⟨p, h1, h2⟩ := K_5 hI (sc.2 (i + 1)) (sc.2 (i + 2))
    exact ⟨467, rfl, s_case_5 hd hi hsc (by omega) (by omega) h1 (fun cl' rc' rs' a b => hN p cl' rc' rs' h2 (by omega) (by omega))⟩
  | 6, _ =>
    obtain ⟨p, h1, h2⟩ := K_6 hI (sc.2 (i + 1)) (sc.2 (i + 2))
    exact ⟨535, rfl, s_case_6 hd hi hsc (by omega) (by omega) h1 (fun cl' rc' rs' a b => hN p cl' rc' rs' h2 (by omega) (by omega))⟩
  | 7, _ =>
    obtain ⟨p, h1, h2⟩ := K_7 hI (sc.2 (i + 1)) (sc.2 (i + 2))
    exact ⟨603, rfl, s_case_7 hd hi hsc (by omega) (by omega) h1 (fun cl' rc' rs' a b => hN p cl' rc' rs' h2 (by omega) (by omega))⟩
  | 8, _ =>
    obtain ⟨p, h1, h2⟩ := K_8 hI (sc.2 (i + 1)) (sc.2 (i + 2)) (sc.2 (i + 3))
    exact ⟨671, rfl, s_case_8 hd hi hsc (by omega) (by omega) h1 (fun cl' rc' rs' a b => hN p cl' rc' rs' h2 (by omega) (by omega))⟩
  | 9, _ =>
    obtain ⟨p, h1, h2⟩ := K_9 hI (sc.2 (i + 1))
    exact ⟨758, rfl, s_case_9 hd hi hsc (by omega) (by omega) h1 (fun cl' rc' rs' a b => hN p cl' rc' rs' h2 (by omega) (by omega))⟩
  | 10, _ =>
    obtain ⟨p, h1, h2⟩ := K_10 hI (sc.2 (i + 1))
    exact ⟨821, rfl, s_case_10 hd hi hsc (by omega) (by omega) h1 (fun cl' rc' rs' a b => hN p cl' rc' rs' h2 (by omega) (by omega))⟩
  | 11, _ =>
    obtain ⟨p, h1, h2⟩ := K_11 hI (sc.2 (i + 1)) (sc.2 (i + 2))
    exact ⟨877, rfl, s_case_11 hd hi hsc (by omega) (by omega) h1 (fun cl' rc' rs' a b => hN p cl' rc' rs' h2 (by omega) (by omega))⟩
  | 12, _ =>
    obtain ⟨p, h1, h2⟩ := K_12 hI (sc.2 (i + 1)) (sc.2 (i + 2))
    exact ⟨961, rfl, s_case_12 hd hi hsc (by omega) (by omega) h1 (fun cl' rc' rs' a b => hN p cl' rc' rs' h2 (by omega) (by omega))⟩
  | 13, _ =>
    obtain ⟨p, h1, h2⟩ := K_13 hI (sc.2 (i + 1))
    exact ⟨1029, rfl, s_case_13 hd hi hsc (by omega) (by omega) h1 (fun cl' rc' rs' a b => hN p cl' rc' rs' h2 (by omega) (by omega))⟩
  | 14, _ =>
    obtain ⟨p, h1, h2⟩ := K_14 hI (sc.2 (i + 1))
    exact ⟨1085, rfl, s_case_14 hd hi hsc (by omega) (by omega) h1 (fun cl' rc' rs' a b => hN p cl' rc' rs' h2 (by omega) (by omega))⟩
  | 15, _ =>
    obtain ⟨p, h1, h2⟩ := K_15 hI (sc.2 (i + 1)) (sc.2 (i + 2))
    exact ⟨1141, rfl, s_case_15 hd hi hsc (by omega) (by omega) h1 (fun cl' rc' rs' a b => hN p cl' rc' rs' h2 (by omega) (by omega))⟩
  | 16, _ =>
    obtain ⟨p, h1, h2⟩ := K_16 hI (sc.2 (i + 1)) (sc.2 (i + 2))
    exact ⟨1209, rfl, s_case_16 hd hi hsc (by omega) (by omega) h1 (fun cl' rc' rs' a b => hN p cl' rc' rs' h2 (by omega) (by omega))⟩
  | 17, _ =>
    obtain ⟨p, h1, h2⟩ := K_17 hI (sc.2 (i + 1)) (sc.2 (i + 2))
    exact ⟨1277, rfl, s_case_17 hd hi hsc (by omega) (by omega) h1 (fun cl' rc' rs' a b => hN p cl' rc' rs' h2 (by omega) (by omega))⟩
  | 18, _ =>
    obtain ⟨p, h1, h2⟩ := K_18 hI (sc.2 (i + 1))
    exact ⟨1345, rfl, s_case_18 hd hi hsc (by omega) (by omega) h1 (fun cl' rc' rs' a b => hN p cl' rc' rs' h2 (by omega) (by omega))⟩
  | 19, _ =>
    obtain ⟨p, h1, h2⟩ := K_19 hI (sc.2 (i + 1)) (sc.2 (i + 2))
    exact ⟨1381, rfl, s_case_19 hd hi hsc (by omega) (by omega) h1 (fun cl' rc' rs' a b => hN p cl' rc' rs' h2 (by omega) (by omega))⟩
  | 20, _ =>
    obtain ⟨p, h1, h2⟩ := K_20 hI (sc.2 (i + 1)) (sc.2 (i + 2))
    exact ⟨1449, rfl, s_case_20 hd hi hsc (by omega) (by omega) h1 (fun cl' rc' rs' a b => hN p cl' rc' rs' h2 (by omega) (by omega))⟩
  | 21, _ =>
    obtain ⟨p, h1, h2⟩ := K_21 hI (sc.2 (i + 1))
    exact ⟨1517, rfl, s_case_21 hd hi hsc (by omega) (by omega) h1 (fun cl' rc' rs' a b => hN p cl' rc' rs' h2 (by omega) (by omega))⟩
  | 22, _ =>
    obtain ⟨p, h1, h2⟩ := K_22 hI (sc.2 (i + 1))
    exact ⟨1573, rfl, s_case_22 hd hi hsc (by omega) (by omega) h1 (fun cl' rc' rs' a b => hN p cl' rc' rs' h2 (by omega) (by omega))⟩
  | 23, _ =>
    obtain ⟨p, h1, h2⟩ := K_23 hI (sc.2 (i + 1)) (sc.2 (i + 2))
    exact ⟨1629, rfl, s_case_23 hd hi hsc (by omega) (by omega) h1 (fun cl' rc' rs' a b => hN p cl' rc' rs' h2 (by omega) (by omega))⟩
  | 24, _ =>
    obtain ⟨p, h1, h2⟩ := K_24 hI (sc.2 (i + 1)) (sc.2 (i + 2))
    exact ⟨1697, rfl, s_case_24 hd hi hsc (by omega) (by omega) h1 (fun cl' rc' rs' a b => hN p cl' rc' rs' h2 (by omega) (by omega))⟩
  | 25, _ =>
    obtain ⟨p, h1, h2⟩ := K_25 hI
    exact ⟨1765, rfl, s_case_25 hd hi hsc (by omega) (by omega) h1 (fun cl' rc' rs' a b => hN p cl' rc' rs' h2 (by omega) (by omega))⟩
  | 26, _ =>
    obtain ⟨p, h1, h2⟩ := K_26 hI
    exact ⟨1778, rfl, s_case_26 hd hi hsc (by omega) (by omega) h1 (fun cl' rc' rs' a b => hN p cl' rc' rs' h2 (by omega) (by omega))⟩
  | 27, _ =>
    obtain ⟨p, h1, h2⟩ := K_27 hI (sc.2 (i + 1))
    exact ⟨1791, rfl, s_case_27 hd hi hsc (by omega) (by omega) h1 (fun cl' rc' rs' a b => hN p cl' rc' rs' h2 (by omega) (by omega))⟩
  | 28, _ =>
    obtain ⟨p, h1, h2⟩ := K_28 hI (sc.2 (i + 1)) (sc.2 (i + 2))
    exact ⟨1847, rfl, s_case_28 hd hi hsc (by omega) (by omega) h1 (fun cl' rc' rs' a b => hN p cl' rc' rs' h2 (by omega) (by omega))⟩
  | 29, _ =>
    obtain ⟨p, h1, h2⟩ := K_29 hI (sc.2 (i + 1))
    exact ⟨1915, rfl, s_case_29 hd hi hsc (by omega) (by omega) h1 (fun cl' rc' rs' a b => hN p cl' rc' rs' h2 (by omega) (by omega))⟩
  | 30, _ =>
    obtain ⟨p, h1, h2⟩ := K_30 hI
    exact ⟨1987, rfl, s_case_30 hd hi hsc (by omega) (by omega) h1 (fun cl' rc' rs' a b => hN p cl' rc' rs' h2 (by omega) (by omega))⟩
  | 31, _ =>
    obtain ⟨p, h1, h2⟩ := K_31 hI (sc.2 (i + 1))
    exact ⟨2031, rfl, s_case_31 hd hi hsc (by omega) (by omega) h1 (fun cl' rc' rs' a b => hN p cl' rc' rs' h2 (by omega) (by omega))⟩
  | 32, _ =>
    obtain ⟨p, h1, h2⟩ := K_32 hI (sc.2 (i + 1))
    exact ⟨2087, rfl, s_case_32 hd hi hsc (by omega) (by omega) h1 (fun cl' rc' rs' a b => hN p cl' rc' rs' h2 (by omega) (by omega))⟩
  | 33, _ =>
    obtain ⟨p, h1, h2⟩ := K_33 hI (sc.2 (i + 1)) (sc.2 (i + 2))
    exact ⟨2143, rfl, s_case_33 hd hi hsc (by omega) (by omega) h1 (fun cl' rc' rs' a b => hN p cl' rc' rs' h2 (by omega) (by omega))⟩
  | 34, _ =>
    obtain ⟨p, h1, h2⟩ := K_34 hI (sc.2 (i + 1)) (sc.2 (i + 2))
    exact ⟨2211, rfl, s_case_34 hd hi hsc (by omega) (by omega) h1 (fun cl' rc' rs' a b => hN p cl' rc' rs' h2 (by omega) (by omega))⟩
  | 35, _ =>
    obtain ⟨p, h1, h2⟩ := K_35 hI (sc.2 (i + 1))
    exact ⟨2279, rfl, s_case_35 hd hi hsc (by omega) (by omega) h1 (fun cl' rc' rs' a b => hN p cl' rc' rs' h2 (by omega) (by omega))⟩
  | 36, _ =>
    obtain ⟨p, h1, h2⟩ := K_36 hI (sc.2 (i + 1))
    exact ⟨2335, rfl, s_case_36 hd hi hsc (by omega) (by omega) h1 (fun cl' rc' rs' a b => hN p cl' rc' rs' h2 (by omega) (by omega))⟩
  | 37, _ =>
    obtain ⟨p, h1, h2⟩ := K_37 hI (sc.2 (i + 1)) (sc.2 (i + 2))
    exact ⟨2391, rfl, s_case_37 hd hi hsc (by omega) (by omega) h1 (fun cl' rc' rs' a b => hN p cl' rc' rs' h2 (by omega) (by omega))⟩
  | 38, _ =>
    obtain ⟨p, h1, h2⟩ := K_38 hI (sc.2 (i + 1))
    exact ⟨2459, rfl, s_case_38 hd hi hsc (by omega) (by omega) h1 (fun cl' rc' rs' a b => hN p cl' rc' rs' h2 (by omega) (by omega))⟩
  | 39, _ =>
    obtain ⟨p, h1, h2⟩ := K_39 hI (sc.2 (i + 1))
    exact ⟨2515, rfl, s_case_39 hd hi hsc (by omega) (by omega) h1 (fun cl' rc' rs' a b => hN p cl' rc' rs' h2 (by omega) (by omega))⟩
  | 40, _ =>
    obtain ⟨p, h1, h2⟩ := K_40 hI
    exact ⟨2556, rfl, s_case_40 hd hi hsc (by omega) (by omega) h1 (fun cl' rc' rs' a b => hN p cl' rc' rs' h2 (by omega) (by omega))⟩
  | 41, _ =>
    obtain ⟨p, h1, h2⟩ := K_41 hI (sc.2 (i + 1))
    exact ⟨2569, rfl, s_case_41 hd hi hsc (by omega) (by omega) h1 (fun cl' rc' rs' a b => hN p cl' rc' rs' h2 (by omega) (by omega))⟩
  | 42, _ =>
    obtain ⟨p, h1, h2⟩ := K_42 hI
    exact ⟨2625, rfl, s_case_42 hd hi hsc (by omega) (by omega) h1 (fun cl' rc' rs' a b => hN p cl' rc' rs' h2 (by omega) (by omega))⟩
  | 43, _ =>
    obtain ⟨p, h1, h2⟩ := K_43 hI (sc.2 (i + 1)) (sc.2 (i + 2)) (sc.2 (i + 3))
    exact ⟨2638, rfl, s_case_43 hd hi hsc (by omega) (by omega) h1 (fun cl' rc' rs' a b => hN p cl' rc' rs' h2 (by omega) (by omega))⟩
  | 44, _ =>
    obtain ⟨p, h1, h2⟩ := K_44 hI (sc.2 (i + 1)) (sc.2 (i + 2))
    exact ⟨2734, rfl, s_case_44 hd hi hsc (by omega) (by omega) h1 (fun cl' rc' rs' a b => hN p cl' rc' rs' h2 (by omega) (by omega))⟩
  | 45, _ =>
    obtain ⟨p, h1, h2⟩ := K_45 hI (sc.2 (i + 1)) (sc.2 (i + 2))
    exact ⟨2818, rfl, s_case_45 hd hi hsc (by omega) (by omega) h1 (fun cl' rc' rs' a b => hN p cl' rc' rs' h2 (by omega) (by omega))⟩
  | 46, _ =>
    obtain ⟨p, h1, h2⟩ := K_46 hI (sc.2 (i + 1)) (sc.2 (i + 2))
    exact ⟨2902, rfl, s_case_46 hd hi hsc (by omega) (by omega) h1 (fun cl' rc' rs' a b => hN p cl' rc' rs' h2 (by omega) (by omega))⟩
  | 47, _ =>
    obtain ⟨p, h1, h2⟩ := K_47 hI (sc.2 (i + 1)) (sc.2 (i + 2))
    exact ⟨2986, rfl, s_case_47 hd hi hsc (by omega) (by omega) h1 (fun cl' rc' rs' a b => hN p cl' rc' rs' h2 (by omega) (by omega))⟩
  | 48, _ =>
    obtain ⟨p, h1, h2⟩ := K_48 hI (sc.2 (i + 1))
    exact ⟨3054, rfl, s_case_48 hd hi hsc (by omega) (by omega) h1 (fun cl' rc' rs' a b => hN p cl' rc' rs' h2 (by omega) (by omega))⟩
  | 49, _ =>
    obtain ⟨p, h1, h2⟩ := K_49 hI
    exact ⟨3079, rfl, s_case_49 hd hi hsc (by omega) (by omega) h1 (fun cl' rc' rs' a b => hN p cl' rc' rs' h2 (by omega) (by omega))⟩
  | 50, _ =>
    obtain ⟨p, h1, h2⟩ := K_50 hI
    exact ⟨3092, rfl, s_case_50 hd hi hsc (by omega) (by omega) h1 (fun cl' rc' rs' a b => hN p cl' rc' rs' h2 (by omega) (by omega))⟩
  | 51, _ =>
    obtain ⟨p, h1, h2⟩ := K_51 hI
    exact ⟨3103, rfl, s_case_51 hd hi hsc (by omega) (by omega) h1 (fun cl' rc' rs' a b => hN p cl' rc' rs' h2 (by omega) (by omega))⟩
  | 52, _ =>
    obtain ⟨p, h1, h2⟩ := K_52 hI (sc.2 (i + 1))
    exact ⟨3116, rfl, s_case_52 hd hi hsc (by omega) (by omega) h1 (fun cl' rc' rs' a b => hN p cl' rc' rs' h2 (by omega) (by omega))⟩
  | j + 53, hj => exact absurd hj (by omega)
theorem oz_sb6 {L : Nat} (h : L ≤ 3072) : (nI L - nI 6).toInt = (L : Int) - 6 := by
  have k := Int32.toInt_sub (nI L) (nI 6)
  rw [oz_ti (by omega), oz_ti (by omega)] at k
  rw [k]
  exact Int.bmod_eq_of_le (by omega) (by omega)
theorem oz_loop (hd : 300 ≤ d) (hsc : sc.1 ≤ 3072) : ∀ n i s cl rc rs, sc.1 ≤ i + 6 * n → i ≤ 4000 → n ≤ rc → 6 * n ≤ rs → oz_Inv s → lf_wp sc d j_Lw_lawmain oz_QQ 23 [.ref mj_SC, .ref 0, .ref 389, .ref 404, .int (nI i), mj_U, mj_U] [] (lf_hp s) cl rc rs := by
  intro n
  induction n with
  | zero =>
    intro i s cl rc rs h1 h2 _ _ hI
    refine lf_blk B_Lw_lawmain_23 ?_
    refine lf_iload rfl ?_
    refine lf_aload rfl ?_
    refine lf_slen ?_
    refine lf_iconst (x := nI 6) rfl ?_
    refine lf_isub ?_
    refine ⟨nI i, nI sc.1 - nI 6, [], rfl, fun _ => ?_, fun hc => absurd ?_ hc⟩
    · refine lf_blk B_Lw_lawmain_3147 ?_
      refine lf_iconst (x := 1) rfl ?_
      exact lf_iret rfl
    · show nI sc.1 - nI 6 < nI i
      rw [Int32.lt_iff_toInt_lt, oz_sb6 hsc, oz_ti (by omega)]
      omega
  | succ n ih =>
    intro i s cl rc rs h1 h2 h3 h4 hI
    refine lf_blk B_Lw_lawmain_23 ?_
    refine lf_iload rfl ?_
    refine lf_aload rfl ?_
    refine lf_slen ?_
    refine lf_iconst (x := nI 6) rfl ?_
    refine lf_isub ?_
    refine ⟨nI i, nI sc.1 - nI 6, [], rfl, fun _ => ?_, fun hc => ?_⟩
    · refine lf_blk B_Lw_lawmain_3147 ?_
      refine lf_iconst (x := 1) rfl ?_
      exact lf_iret rfl
    · have hi : i + 6 ≤ sc.1 := by
        have hc' : ¬ nI sc.1 - nI 6 < nI i := hc
        rw [Int32.lt_iff_toInt_lt, oz_sb6 hsc, oz_ti (by omega)] at hc'
        omega
      refine lf_aload rfl ?_
      refine lf_iload rfl ?_
      refine ⟨nI i, mj_SC, [], sc.1, sc.2, rfl, Or.inr ⟨rfl, rfl, rfl⟩, vp_in_nI (by omega) (by omega), ?_⟩
      rw [nI_clamp (by omega)]
      refine lf_iconst (x := 63) rfl ?_
      refine lf_iand ?_
      obtain ⟨j, hj, e⟩ := pk_andE (sc.2 i) (m := 63) 6 (by decide +kernel)
      rw [e]
      have hN : ∀ p cl' rc' rs', oz_Inv p → n ≤ rc' → 6 * n ≤ rs' → lf_wp sc d j_Lw_lawmain oz_QQ 3141 [.ref mj_SC, .ref 0, .ref 389, .ref 404, .int (nI i), mj_U, mj_U] [] (lf_hp p) cl' rc' rs' := by
        intro p cl' rc' rs' hp a b
        refine lf_blk B_Lw_lawmain_3141 ?_
        refine ⟨nI i, rfl, rfl, ?_⟩
        refine lf_goto ?_
        have e6 : nI i + Int32.ofInt 6 = nI (i + 6) := nI_add i 6
        have h := ih (i + 6) p cl' rc' rs' (by omega) (by omega) a b hp
        rw [← e6] at h
        exact h
      have ej : (nI j).toInt = (j : Int) := oz_ti (by omega)
      refine ⟨nI j, [], rfl, fun _ => hN s cl rc rs hI (by omega) (by omega), fun hc => ?_⟩
      rw [ej] at hc ⊢
      obtain ⟨t, k1, k2⟩ := oz_swt (cl := cl) hd hi hsc h3 h4 hI hN j (by omega)
      refine ⟨t, ?_, k2⟩
      rw [show ((j : Int) - 0).toNat = j by omega]
      exact k1
end
