theorem ck_Lw_holt : mj_ck 13 cL_holt (some .int) false bl_Lw_holt = true := by decide +kernel
theorem ck_Lw_law : mj_ck 13 cL_law (some .int) false bl_Lw_law = true := by decide +kernel
theorem ck_Lw_bed : mj_ck 13 cL_bed (some .int) false bl_Lw_bed = true := by decide +kernel
theorem ck_Lw_basket : mj_ck 13 cL_basket (some .int) false bl_Lw_basket = true := by decide +kernel
theorem ck_Lw_run : mj_ck 13 cL_run (some .int) false bl_Lw_run = true := by decide +kernel
theorem ck_Lw_over : mj_ck 13 cL_over (some .int) false bl_Lw_over = true := by decide +kernel
theorem ck_Lw_sound : mj_ck 13 cL_sound (some .int) false bl_Lw_sound = true := by decide +kernel
theorem ck_Lw_store : mj_ck 13 cL_store (some .int) false bl_Lw_store = true := by decide +kernel
theorem ck_Lw_hand : mj_ck 13 cL_hand (some .int) false bl_Lw_hand = true := by decide +kernel
theorem ck_Lw_order : mj_ck 13 cL_order (some .int) false bl_Lw_order = true := by decide +kernel
theorem ck_Lw_years : mj_ck 13 cL_years (some .int) false bl_Lw_years = true := by decide +kernel
theorem ck_Lw_cut : mj_ck 13 cL_cut (some .int) false bl_Lw_cut = true := by decide +kernel
theorem ck_Lw_buy : mj_ck 13 cL_buy (some .int) false bl_Lw_buy = true := by decide +kernel
theorem ck_Lw_sell : mj_ck 13 cL_sell (some .int) false bl_Lw_sell = true := by decide +kernel
theorem ck_Lw_take : mj_ck 13 cL_take (some .int) false bl_Lw_take = true := by decide +kernel
theorem ck_Lw_drop : mj_ck 13 cL_drop (some .int) false bl_Lw_drop = true := by decide +kernel
theorem ck_Lw_drain : mj_ck 13 cL_drain (some .int) false bl_Lw_drain = true := by decide +kernel
theorem ck_Lw_hire : mj_ck 13 cL_hire (some .int) false bl_Lw_hire = true := by decide +kernel
theorem ck_Lw_teach : mj_ck 13 cL_teach (some .int) false bl_Lw_teach = true := by decide +kernel
theorem ck_Lw_make : mj_ck 13 cL_make (some .int) false bl_Lw_make = true := by decide +kernel
theorem ck_Lw_gain : mj_ck 13 cL_gain (some .int) false bl_Lw_gain = true := by decide +kernel
theorem ck_Lw_cuts : mj_ck 13 cL_cuts (some .int) false bl_Lw_cuts = true := by decide +kernel
theorem ck_Lw_pieces : mj_ck 13 cL_pieces (some .int) false bl_Lw_pieces = true := by decide +kernel
theorem ck_Lw_rod : mj_ck 13 cL_rod (some .int) false bl_Lw_rod = true := by decide +kernel
theorem ck_Lw_found : mj_ck 13 cL_found (some .int) false bl_Lw_found = true := by decide +kernel
theorem ck_Lw_look : mj_ck 13 cL_look (some .int) false bl_Lw_look = true := by decide +kernel
theorem ck_Lw_team : mj_ck 13 cL_team (some .int) false bl_Lw_team = true := by decide +kernel
theorem ck_Lw_pairs : mj_ck 13 cL_pairs (some .int) false bl_Lw_pairs = true := by decide +kernel
theorem ck_Lw_change : mj_ck 13 cL_change (some .int) false bl_Lw_change = true := by decide +kernel
theorem ck_Lw_share : mj_ck 13 cL_share (some .int) false bl_Lw_share = true := by decide +kernel
theorem ck_Lw_price : mj_ck 13 cL_price (some .int) false bl_Lw_price = true := by decide +kernel
theorem ck_Lw_rests : mj_ck 13 cL_rests (some .int) false bl_Lw_rests = true := by decide +kernel
theorem ck_Lw_odds : mj_ck 13 cL_odds (some .int) false bl_Lw_odds = true := by decide +kernel
theorem ck_Lw_most : mj_ck 13 cL_most (some .int) false bl_Lw_most = true := by decide +kernel
theorem ck_Lw_sort : mj_ck 13 cL_sort (some .int) false bl_Lw_sort = true := by decide +kernel
theorem ck_Lw_ahead : mj_ck 13 cL_ahead (some .int) false bl_Lw_ahead = true := by decide +kernel
theorem ck_Lw_trial : mj_ck 13 cL_trial (some .int) false bl_Lw_trial = true := by decide +kernel
theorem ck_Lw_span : mj_ck 13 cL_span (some .int) false bl_Lw_span = true := by decide +kernel
theorem ck_Lw_led : mj_ck 13 cL_led (some .int) false bl_Lw_led = true := by decide +kernel
theorem ck_Lw_log : mj_ck 13 cL_log (some .int) false bl_Lw_log = true := by decide +kernel
theorem ck_Lw_lawmain_0 : mj_ck 13 code (some .boolean) false ((bl_Lw_lawmain.drop 0).take 12) = true := by decide +kernel
theorem ck_Lw_lawmain_12 : mj_ck 13 code (some .boolean) false ((bl_Lw_lawmain.drop 12).take 12) = true := by decide +kernel
theorem ck_Lw_lawmain_24 : mj_ck 13 code (some .boolean) false ((bl_Lw_lawmain.drop 24).take 12) = true := by decide +kernel
theorem ck_Lw_lawmain_36 : mj_ck 13 code (some .boolean) false ((bl_Lw_lawmain.drop 36).take 12) = true := by decide +kernel
theorem ck_Lw_lawmain_48 : mj_ck 13 code (some .boolean) false ((bl_Lw_lawmain.drop 48).take 12) = true := by decide +kernel
theorem ck_Lw_lawmain_60 : mj_ck 13 code (some .boolean) false ((bl_Lw_lawmain.drop 60).take 12) = true := by decide +kernel
theorem ck_Lw_lawmain_72 : mj_ck 13 code (some .boolean) false ((bl_Lw_lawmain.drop 72).take 12) = true := by decide +kernel
theorem ck_Lw_lawmain_84 : mj_ck 13 code (some .boolean) false ((bl_Lw_lawmain.drop 84).take 12) = true := by decide +kernel
theorem ck_Lw_lawmain_96 : mj_ck 13 code (some .boolean) false ((bl_Lw_lawmain.drop 96).take 12) = true := by decide +kernel
theorem ck_Lw_lawmain_108 : mj_ck 13 code (some .boolean) false ((bl_Lw_lawmain.drop 108).take 12) = true := by decide +kernel
theorem ck_Lw_lawmain_120 : mj_ck 13 code (some .boolean) false ((bl_Lw_lawmain.drop 120).take 12) = true := by decide +kernel
theorem ck_Lw_lawmain_132 : mj_ck 13 code (some .boolean) false ((bl_Lw_lawmain.drop 132).take 12) = true := by decide +kernel
theorem ck_Lw_lawmain_144 : mj_ck 13 code (some .boolean) false ((bl_Lw_lawmain.drop 144).take 12) = true := by decide +kernel
theorem ck_Lw_lawmain_156 : mj_ck 13 code (some .boolean) false ((bl_Lw_lawmain.drop 156).take 12) = true := by decide +kernel
theorem ck_Lw_lawmain : mj_ck 13 code (some .boolean) false bl_Lw_lawmain = true := by
  have h0 := ck_Lw_lawmain_0
  have h12 := ck_Lw_lawmain_12
  have h24 := ck_Lw_lawmain_24
  have h36 := ck_Lw_lawmain_36
  have h48 := ck_Lw_lawmain_48
  have h60 := ck_Lw_lawmain_60
  have h72 := ck_Lw_lawmain_72
  have h84 := ck_Lw_lawmain_84
  have h96 := ck_Lw_lawmain_96
  have h108 := ck_Lw_lawmain_108
  have h120 := ck_Lw_lawmain_120
  have h132 := ck_Lw_lawmain_132
  have h144 := ck_Lw_lawmain_144
  have h156 := ck_Lw_lawmain_156
  have e : bl_Lw_lawmain = (bl_Lw_lawmain.drop 0).take 12 ++ ((bl_Lw_lawmain.drop 12).take 12 ++ ((bl_Lw_lawmain.drop 24).take 12 ++ ((bl_Lw_lawmain.drop 36).take 12 ++ ((bl_Lw_lawmain.drop 48).take 12 ++ ((bl_Lw_lawmain.drop 60).take 12 ++ ((bl_Lw_lawmain.drop 72).take 12 ++ ((bl_Lw_lawmain.drop 84).take 12 ++ ((bl_Lw_lawmain.drop 96).take 12 ++ ((bl_Lw_lawmain.drop 108).take 12 ++ ((bl_Lw_lawmain.drop 120).take 12 ++ ((bl_Lw_lawmain.drop 132).take 12 ++ ((bl_Lw_lawmain.drop 144).take 12 ++ ((bl_Lw_lawmain.drop 156).take 12))))))))))))) := by decide +kernel
  rw [e]; unfold mj_ck at *; simp only [List.all_append, Bool.and_eq_true]; exact ⟨h0, h12, h24, h36, h48, h60, h72, h84, h96, h108, h120, h132, h144, h156⟩
