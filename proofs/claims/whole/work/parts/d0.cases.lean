/-! ===== every case ===== -/
section
variable {s : lf_S}
theorem K_0 (h : oz_Inv s) (z1 : Int32) (z2 : Int32) (z3 : Int32) (z4 : Int32) (z5 : Int32) : ∃ t, f_case_0 z1 z2 z3 z4 z5 s = some t ∧ oz_Inv t := by
  obtain ⟨a, L, n, o, E, T, len, I⟩ := h
  exact k_feed I z1 z2 z3 z4 z5
theorem K_1 (h : oz_Inv s) (z1 : Int32) : ∃ t, f_case_1 z1 s = some t ∧ oz_Inv t := by
  obtain ⟨a, L, n, o, E, T, len, I⟩ := h
  exact k_end I z1
theorem K_2 (h : oz_Inv s) : ∃ t, f_case_2 s = some t ∧ oz_Inv t := by
  obtain ⟨a, L, n, o, E, T, len, I⟩ := h
  exact oz_caseI (q_holt I)
theorem K_3 (h : oz_Inv s) : ∃ t, f_case_3 s = some t ∧ oz_Inv t := by
  obtain ⟨a, L, n, o, E, T, len, I⟩ := h
  exact oz_caseI (q_law I)
theorem K_4 (h : oz_Inv s) : ∃ t, f_case_4 s = some t ∧ oz_Inv t := by
  obtain ⟨a, L, n, o, E, T, len, I⟩ := h
  exact k_fault I
theorem K_5 (h : oz_Inv s) (z1 : Int32) (z2 : Int32) : ∃ t, f_case_5 z1 z2 s = some t ∧ oz_Inv t := by
  obtain ⟨a, L, n, o, E, T, len, I⟩ := h
  exact oz_caseI (q_bed I z1 z2)
theorem K_6 (h : oz_Inv s) (z1 : Int32) (z2 : Int32) : ∃ t, f_case_6 z1 z2 s = some t ∧ oz_Inv t := by
  obtain ⟨a, L, n, o, E, T, len, I⟩ := h
  exact oz_caseI (q_basket I z1 z2)
theorem K_7 (h : oz_Inv s) (z1 : Int32) (z2 : Int32) : ∃ t, f_case_7 z1 z2 s = some t ∧ oz_Inv t := by
  obtain ⟨a, L, n, o, E, T, len, I⟩ := h
  exact oz_caseI (q_run I z1 z2)
theorem K_8 (h : oz_Inv s) (z1 : Int32) (z2 : Int32) (z3 : Int32) : ∃ t, f_case_8 z1 z2 z3 s = some t ∧ oz_Inv t := by
  obtain ⟨a, L, n, o, E, T, len, I⟩ := h
  exact oz_caseB (q_over I z1 z2 z3)
theorem K_9 (h : oz_Inv s) (z1 : Int32) : ∃ t, f_case_9 z1 s = some t ∧ oz_Inv t := by
  obtain ⟨a, L, n, o, E, T, len, I⟩ := h
  exact oz_caseB (q_sound I z1)
theorem K_10 (h : oz_Inv s) (z1 : Int32) : ∃ t, f_case_10 z1 s = some t ∧ oz_Inv t := by
  obtain ⟨a, L, n, o, E, T, len, I⟩ := h
  exact oz_caseI (q_store I z1)
theorem K_11 (h : oz_Inv s) (z1 : Int32) (z2 : Int32) : ∃ t, f_case_11 z1 z2 s = some t ∧ oz_Inv t := by
  obtain ⟨a, L, n, o, E, T, len, I⟩ := h
  unfold f_case_11
  by_cases c : z2 = 0
  · simp only [if_pos c]
    exact oz_caseI (q_hand I z1 0)
  · simp only [if_neg c]
    exact oz_caseI (q_hand I z1 1)
theorem K_12 (h : oz_Inv s) (z1 : Int32) (z2 : Int32) : ∃ t, f_case_12 z1 z2 s = some t ∧ oz_Inv t := by
  obtain ⟨a, L, n, o, E, T, len, I⟩ := h
  exact oz_caseI (q_order I z1 z2)
theorem K_13 (h : oz_Inv s) (z1 : Int32) : ∃ t, f_case_13 z1 s = some t ∧ oz_Inv t := by
  obtain ⟨a, L, n, o, E, T, len, I⟩ := h
  exact oz_caseI (q_years I z1)
theorem K_14 (h : oz_Inv s) (z1 : Int32) : ∃ t, f_case_14 z1 s = some t ∧ oz_Inv t := by
  obtain ⟨a, L, n, o, E, T, len, I⟩ := h
  exact oz_caseI (q_cut I z1)
theorem K_15 (h : oz_Inv s) (z1 : Int32) (z2 : Int32) : ∃ t, f_case_15 z1 z2 s = some t ∧ oz_Inv t := by
  obtain ⟨a, L, n, o, E, T, len, I⟩ := h
  exact oz_caseI (q_buy I z1 z2)
theorem K_16 (h : oz_Inv s) (z1 : Int32) (z2 : Int32) : ∃ t, f_case_16 z1 z2 s = some t ∧ oz_Inv t := by
  obtain ⟨a, L, n, o, E, T, len, I⟩ := h
  exact oz_caseI (q_sell I z1 z2)
theorem K_17 (h : oz_Inv s) (z1 : Int32) (z2 : Int32) : ∃ t, f_case_17 z1 z2 s = some t ∧ oz_Inv t := by
  obtain ⟨a, L, n, o, E, T, len, I⟩ := h
  exact oz_caseI (q_take I z1 z2)
theorem K_18 (h : oz_Inv s) (z1 : Int32) : ∃ t, f_case_18 z1 s = some t ∧ oz_Inv t := by
  obtain ⟨a, L, n, o, E, T, len, I⟩ := h
  exact k_drop I z1
theorem K_19 (h : oz_Inv s) (z1 : Int32) (z2 : Int32) : ∃ t, f_case_19 z1 z2 s = some t ∧ oz_Inv t := by
  obtain ⟨a, L, n, o, E, T, len, I⟩ := h
  exact oz_caseI (q_drain I z1 z2)
theorem K_20 (h : oz_Inv s) (z1 : Int32) (z2 : Int32) : ∃ t, f_case_20 z1 z2 s = some t ∧ oz_Inv t := by
  obtain ⟨a, L, n, o, E, T, len, I⟩ := h
  exact oz_caseI (q_hire I z1 z2)
theorem K_21 (h : oz_Inv s) (z1 : Int32) : ∃ t, f_case_21 z1 s = some t ∧ oz_Inv t := by
  obtain ⟨a, L, n, o, E, T, len, I⟩ := h
  exact oz_caseI (q_teach I z1)
theorem K_22 (h : oz_Inv s) (z1 : Int32) : ∃ t, f_case_22 z1 s = some t ∧ oz_Inv t := by
  obtain ⟨a, L, n, o, E, T, len, I⟩ := h
  exact oz_caseI (q_make I z1)
theorem K_23 (h : oz_Inv s) (z1 : Int32) (z2 : Int32) : ∃ t, f_case_23 z1 z2 s = some t ∧ oz_Inv t := by
  obtain ⟨a, L, n, o, E, T, len, I⟩ := h
  exact oz_caseI (q_gain I z1 z2)
theorem K_24 (h : oz_Inv s) (z1 : Int32) (z2 : Int32) : ∃ t, f_case_24 z1 z2 s = some t ∧ oz_Inv t := by
  obtain ⟨a, L, n, o, E, T, len, I⟩ := h
  exact oz_caseI (q_cuts I z1 z2)
theorem K_25 (h : oz_Inv s) : ∃ t, f_case_25 s = some t ∧ oz_Inv t := by
  obtain ⟨a, L, n, o, E, T, len, I⟩ := h
  exact q_worth I
theorem K_26 (h : oz_Inv s) : ∃ t, f_case_26 s = some t ∧ oz_Inv t := by
  obtain ⟨a, L, n, o, E, T, len, I⟩ := h
  exact q_fills I
theorem K_27 (h : oz_Inv s) (z1 : Int32) : ∃ t, f_case_27 z1 s = some t ∧ oz_Inv t := by
  obtain ⟨a, L, n, o, E, T, len, I⟩ := h
  exact oz_caseI (q_pieces I z1)
theorem K_28 (h : oz_Inv s) (z1 : Int32) (z2 : Int32) : ∃ t, f_case_28 z1 z2 s = some t ∧ oz_Inv t := by
  obtain ⟨a, L, n, o, E, T, len, I⟩ := h
  exact oz_caseI (q_rod I z1 z2)
theorem K_29 (h : oz_Inv s) (z1 : Int32) : ∃ t, f_case_29 z1 s = some t ∧ oz_Inv t := by
  obtain ⟨a, L, n, o, E, T, len, I⟩ := h
  unfold f_case_29
  by_cases c : z1 = 0
  · simp only [if_pos c]
    exact oz_caseI (q_found I 0)
  · simp only [if_neg c]
    exact oz_caseI (q_found I 1)
theorem K_30 (h : oz_Inv s) : ∃ t, f_case_30 s = some t ∧ oz_Inv t := by
  obtain ⟨a, L, n, o, E, T, len, I⟩ := h
  exact oz_caseI (q_look I)
theorem K_31 (h : oz_Inv s) (z1 : Int32) : ∃ t, f_case_31 z1 s = some t ∧ oz_Inv t := by
  obtain ⟨a, L, n, o, E, T, len, I⟩ := h
  exact oz_caseI (q_team I z1)
theorem K_32 (h : oz_Inv s) (z1 : Int32) : ∃ t, f_case_32 z1 s = some t ∧ oz_Inv t := by
  obtain ⟨a, L, n, o, E, T, len, I⟩ := h
  exact oz_caseI (q_pairs I z1)
theorem K_33 (h : oz_Inv s) (z1 : Int32) (z2 : Int32) : ∃ t, f_case_33 z1 z2 s = some t ∧ oz_Inv t := by
  obtain ⟨a, L, n, o, E, T, len, I⟩ := h
  exact oz_caseI (q_change I z1 z2)
theorem K_34 (h : oz_Inv s) (z1 : Int32) (z2 : Int32) : ∃ t, f_case_34 z1 z2 s = some t ∧ oz_Inv t := by
  obtain ⟨a, L, n, o, E, T, len, I⟩ := h
  exact oz_caseI (q_share I z1 z2)
theorem K_35 (h : oz_Inv s) (z1 : Int32) : ∃ t, f_case_35 z1 s = some t ∧ oz_Inv t := by
  obtain ⟨a, L, n, o, E, T, len, I⟩ := h
  exact oz_caseI (q_price I z1)
theorem K_36 (h : oz_Inv s) (z1 : Int32) : ∃ t, f_case_36 z1 s = some t ∧ oz_Inv t := by
  obtain ⟨a, L, n, o, E, T, len, I⟩ := h
  exact oz_caseI (q_rests I z1)
theorem K_37 (h : oz_Inv s) (z1 : Int32) (z2 : Int32) : ∃ t, f_case_37 z1 z2 s = some t ∧ oz_Inv t := by
  obtain ⟨a, L, n, o, E, T, len, I⟩ := h
  exact oz_caseI (q_odds I z1 z2)
theorem K_38 (h : oz_Inv s) (z1 : Int32) : ∃ t, f_case_38 z1 s = some t ∧ oz_Inv t := by
  obtain ⟨a, L, n, o, E, T, len, I⟩ := h
  exact oz_caseI (q_most I z1)
theorem K_39 (h : oz_Inv s) (z1 : Int32) : ∃ t, f_case_39 z1 s = some t ∧ oz_Inv t := by
  obtain ⟨a, L, n, o, E, T, len, I⟩ := h
  exact q_open I z1
theorem K_40 (h : oz_Inv s) : ∃ t, f_case_40 s = some t ∧ oz_Inv t := by
  obtain ⟨a, L, n, o, E, T, len, I⟩ := h
  exact k_twins I
theorem K_41 (h : oz_Inv s) (z1 : Int32) : ∃ t, f_case_41 z1 s = some t ∧ oz_Inv t := by
  obtain ⟨a, L, n, o, E, T, len, I⟩ := h
  exact oz_caseI (q_sort I z1)
theorem K_42 (h : oz_Inv s) : ∃ t, f_case_42 s = some t ∧ oz_Inv t := by
  obtain ⟨a, L, n, o, E, T, len, I⟩ := h
  exact k_lengths I
theorem K_43 (h : oz_Inv s) (z1 : Int32) (z2 : Int32) (z3 : Int32) : ∃ t, f_case_43 z1 z2 z3 s = some t ∧ oz_Inv t := by
  obtain ⟨a, L, n, o, E, T, len, I⟩ := h
  unfold f_case_43
  by_cases c : z3 = 0
  · simp only [if_pos c]
    exact oz_caseI (q_ahead I z1 z2 0)
  · simp only [if_neg c]
    exact oz_caseI (q_ahead I z1 z2 1)
theorem K_44 (h : oz_Inv s) (z1 : Int32) (z2 : Int32) : ∃ t, f_case_44 z1 z2 s = some t ∧ oz_Inv t := by
  obtain ⟨a, L, n, o, E, T, len, I⟩ := h
  unfold f_case_44
  by_cases c : z2 = 0
  · simp only [if_pos c]
    exact oz_caseI (q_trial I z1 0)
  · simp only [if_neg c]
    exact oz_caseI (q_trial I z1 1)
theorem K_45 (h : oz_Inv s) (z1 : Int32) (z2 : Int32) : ∃ t, f_case_45 z1 z2 s = some t ∧ oz_Inv t := by
  obtain ⟨a, L, n, o, E, T, len, I⟩ := h
  unfold f_case_45
  by_cases c : z2 = 0
  · simp only [if_pos c]
    exact oz_caseI (q_span I z1 0)
  · simp only [if_neg c]
    exact oz_caseI (q_span I z1 1)
theorem K_46 (h : oz_Inv s) (z1 : Int32) (z2 : Int32) : ∃ t, f_case_46 z1 z2 s = some t ∧ oz_Inv t := by
  obtain ⟨a, L, n, o, E, T, len, I⟩ := h
  unfold f_case_46
  by_cases c : z2 = 0
  · simp only [if_pos c]
    exact oz_caseI (q_led I z1 0)
  · simp only [if_neg c]
    exact oz_caseI (q_led I z1 1)
theorem K_47 (h : oz_Inv s) (z1 : Int32) (z2 : Int32) : ∃ t, f_case_47 z1 z2 s = some t ∧ oz_Inv t := by
  obtain ⟨a, L, n, o, E, T, len, I⟩ := h
  exact oz_caseI (q_log I z1 z2)
theorem K_48 (h : oz_Inv s) (z1 : Int32) : ∃ t, f_case_48 z1 s = some t ∧ oz_Inv t := by
  obtain ⟨a, L, n, o, E, T, len, I⟩ := h
  exact k_seed I z1
theorem K_49 (h : oz_Inv s) : ∃ t, f_case_49 s = some t ∧ oz_Inv t := by
  obtain ⟨a, L, n, o, E, T, len, I⟩ := h
  exact k_undo I
theorem K_50 (h : oz_Inv s) : ∃ t, f_case_50 s = some t ∧ oz_Inv t := by
  obtain ⟨a, L, n, o, E, T, len, I⟩ := h
  exact k_image I
theorem K_51 (h : oz_Inv s) : ∃ t, f_case_51 s = some t ∧ oz_Inv t := by
  obtain ⟨a, L, n, o, E, T, len, I⟩ := h
  exact k_back I
theorem K_52 (h : oz_Inv s) (z1 : Int32) : ∃ t, f_case_52 z1 s = some t ∧ oz_Inv t := by
  obtain ⟨a, L, n, o, E, T, len, I⟩ := h
  exact k_count I z1
end
