theorem ck_Lw_holt : mj_ck 13 cL_holt (some .int) false bl_Lw_holt = true := by decide +kernel
theorem ck_Lw_law : mj_ck 13 cL_law (some .int) false bl_Lw_law = true := by decide +kernel
theorem ck_Lw_bed : mj_ck 13 cL_bed (some .int) false bl_Lw_bed = true := by decide +kernel
theorem ck_Lw_basket : mj_ck 13 cL_basket (some .int) false bl_Lw_basket = true := by decide +kernel
theorem ck_Lw_run : mj_ck 13 cL_run (some .int) false bl_Lw_run = true := by decide +kernel
theorem ck_Lw_over : mj_ck 13 cL_over (some .int) false bl_Lw_over = true := by decide +kernel
theorem ck_Lw_sound : mj_ck 13 cL_sound (some .int) false bl_Lw_sound = true := by decide +kernel
theorem ck_Lw_store : mj_ck 13 cL_store (some .int) false bl_Lw_store = true := by decide +kernel
theorem ck_Lw_hand : mj_ck 13 cL_hand (some .int) false bl_Lw_hand = true := by decide +kernel
theorem ck_Lw_order : mj_ck 13 cL_order (some .int) false bl_Lw_order = true := by decide +kernel
theorem ck_Lw_years : mj_ck 13 cL_years (some .int) false bl_Lw_years = true := by decide +kernel
theorem ck_Lw_cut : mj_ck 13 cL_cut (some .int) false bl_Lw_cut = true := by decide +kernel
theorem ck_Lw_buy : mj_ck 13 cL_buy (some .int) false bl_Lw_buy = true := by decide +kernel
theorem ck_Lw_sell : mj_ck 13 cL_sell (some .int) false bl_Lw_sell = true := by decide +kernel
theorem ck_Lw_take : mj_ck 13 cL_take (some .int) false bl_Lw_take = true := by decide +kernel
theorem ck_Lw_drop : mj_ck 13 cL_drop (some .int) false bl_Lw_drop = true := by decide +kernel
theorem ck_Lw_drain : mj_ck 13 cL_drain (some .int) false bl_Lw_drain = true := by decide +kernel
theorem ck_Lw_hire : mj_ck 13 cL_hire (some .int) false bl_Lw_hire = true := by decide +kernel
theorem ck_Lw_teach : mj_ck 13 cL_teach (some .int) false bl_Lw_teach = true := by decide +kernel
theorem ck_Lw_make : mj_ck 13 cL_make (some .int) false bl_Lw_make = true := by decide +kernel
theorem ck_Lw_gain : mj_ck 13 cL_gain (some .int) false bl_Lw_gain = true := by decide +kernel
theorem ck_Lw_cuts : mj_ck 13 cL_cuts (some .int) false bl_Lw_cuts = true := by decide +kernel
theorem ck_Lw_pieces : mj_ck 13 cL_pieces (some .int) false bl_Lw_pieces = true := by decide +kernel
theorem ck_Lw_rod : mj_ck 13 cL_rod (some .int) false bl_Lw_rod = true := by decide +kernel
theorem ck_Lw_found : mj_ck 13 cL_found (some .int) false bl_Lw_found = true := by decide +kernel
theorem ck_Lw_look : mj_ck 13 cL_look (some .int) false bl_Lw_look = true := by decide +kernel
theorem ck_Lw_team : mj_ck 13 cL_team (some .int) false bl_Lw_team = true := by decide +kernel
theorem ck_Lw_pairs : mj_ck 13 cL_pairs (some .int) false bl_Lw_pairs = true := by decide +kernel
theorem ck_Lw_change : mj_ck 13 cL_change (some .int) false bl_Lw_change = true := by decide +kernel
theorem ck_Lw_share : mj_ck 13 cL_share (some .int) false bl_Lw_share = true := by decide +kernel
theorem ck_Lw_price : mj_ck 13 cL_price (some .int) false bl_Lw_price = true := by decide +kernel
theorem ck_Lw_rests : mj_ck 13 cL_rests (some .int) false bl_Lw_rests = true := by decide +kernel
theorem ck_Lw_odds : mj_ck 13 cL_odds (some .int) false bl_Lw_odds = true := by decide +kernel
theorem ck_Lw_most : mj_ck 13 cL_most (some .int) false bl_Lw_most = true := by decide +kernel
theorem ck_Lw_sort : mj_ck 13 cL_sort (some .int) false bl_Lw_sort = true := by decide +kernel
theorem ck_Lw_ahead : mj_ck 13 cL_ahead (some .int) false bl_Lw_ahead = true := by decide +kernel
theorem ck_Lw_trial : mj_ck 13 cL_trial (some .int) false bl_Lw_trial = true := by decide +kernel
theorem ck_Lw_span : mj_ck 13 cL_span (some .int) false bl_Lw_span = true := by decide +kernel
theorem ck_Lw_led : mj_ck 13 cL_led (some .int) false bl_Lw_led = true := by decide +kernel
theorem ck_Lw_log : mj_ck 13 cL_log (some .int) false bl_Lw_log = true := by decide +kernel
theorem ck_Lw_lawmain_0 : mj_ck 13 code (some .boolean) false ((bl_Lw_lawmain.drop 0).take 2) = true := by decide +kernel
theorem ck_Lw_lawmain_2 : mj_ck 13 code (some .boolean) false ((bl_Lw_lawmain.drop 2).take 2) = true := by decide +kernel
theorem ck_Lw_lawmain_4 : mj_ck 13 code (some .boolean) false ((bl_Lw_lawmain.drop 4).take 2) = true := by decide +kernel
theorem ck_Lw_lawmain_6 : mj_ck 13 code (some .boolean) false ((bl_Lw_lawmain.drop 6).take 2) = true := by decide +kernel
theorem ck_Lw_lawmain_8 : mj_ck 13 code (some .boolean) false ((bl_Lw_lawmain.drop 8).take 2) = true := by decide +kernel
theorem ck_Lw_lawmain_10 : mj_ck 13 code (some .boolean) false ((bl_Lw_lawmain.drop 10).take 2) = true := by decide +kernel
theorem ck_Lw_lawmain_12 : mj_ck 13 code (some .boolean) false ((bl_Lw_lawmain.drop 12).take 2) = true := by decide +kernel
theorem ck_Lw_lawmain_14 : mj_ck 13 code (some .boolean) false ((bl_Lw_lawmain.drop 14).take 2) = true := by decide +kernel
theorem ck_Lw_lawmain_16 : mj_ck 13 code (some .boolean) false ((bl_Lw_lawmain.drop 16).take 2) = true := by decide +kernel
theorem ck_Lw_lawmain_18 : mj_ck 13 code (some .boolean) false ((bl_Lw_lawmain.drop 18).take 2) = true := by decide +kernel
theorem ck_Lw_lawmain_20 : mj_ck 13 code (some .boolean) false ((bl_Lw_lawmain.drop 20).take 2) = true := by decide +kernel
theorem ck_Lw_lawmain_22 : mj_ck 13 code (some .boolean) false ((bl_Lw_lawmain.drop 22).take 2) = true := by decide +kernel
theorem ck_Lw_lawmain_24 : mj_ck 13 code (some .boolean) false ((bl_Lw_lawmain.drop 24).take 2) = true := by decide +kernel
theorem ck_Lw_lawmain_26 : mj_ck 13 code (some .boolean) false ((bl_Lw_lawmain.drop 26).take 2) = true := by decide +kernel
theorem ck_Lw_lawmain_28 : mj_ck 13 code (some .boolean) false ((bl_Lw_lawmain.drop 28).take 2) = true := by decide +kernel
theorem ck_Lw_lawmain_30 : mj_ck 13 code (some .boolean) false ((bl_Lw_lawmain.drop 30).take 2) = true := by decide +kernel
theorem ck_Lw_lawmain_32 : mj_ck 13 code (some .boolean) false ((bl_Lw_lawmain.drop 32).take 2) = true := by decide +kernel
theorem ck_Lw_lawmain_34 : mj_ck 13 code (some .boolean) false ((bl_Lw_lawmain.drop 34).take 2) = true := by decide +kernel
theorem ck_Lw_lawmain_36 : mj_ck 13 code (some .boolean) false ((bl_Lw_lawmain.drop 36).take 2) = true := by decide +kernel
theorem ck_Lw_lawmain_38 : mj_ck 13 code (some .boolean) false ((bl_Lw_lawmain.drop 38).take 2) = true := by decide +kernel
theorem ck_Lw_lawmain_40 : mj_ck 13 code (some .boolean) false ((bl_Lw_lawmain.drop 40).take 2) = true := by decide +kernel
theorem ck_Lw_lawmain_42 : mj_ck 13 code (some .boolean) false ((bl_Lw_lawmain.drop 42).take 2) = true := by decide +kernel
theorem ck_Lw_lawmain_44 : mj_ck 13 code (some .boolean) false ((bl_Lw_lawmain.drop 44).take 2) = true := by decide +kernel
theorem ck_Lw_lawmain_46 : mj_ck 13 code (some .boolean) false ((bl_Lw_lawmain.drop 46).take 2) = true := by decide +kernel
theorem ck_Lw_lawmain_48 : mj_ck 13 code (some .boolean) false ((bl_Lw_lawmain.drop 48).take 2) = true := by decide +kernel
theorem ck_Lw_lawmain_50 : mj_ck 13 code (some .boolean) false ((bl_Lw_lawmain.drop 50).take 2) = true := by decide +kernel
theorem ck_Lw_lawmain_52 : mj_ck 13 code (some .boolean) false ((bl_Lw_lawmain.drop 52).take 2) = true := by decide +kernel
theorem ck_Lw_lawmain_54 : mj_ck 13 code (some .boolean) false ((bl_Lw_lawmain.drop 54).take 2) = true := by decide +kernel
theorem ck_Lw_lawmain_56 : mj_ck 13 code (some .boolean) false ((bl_Lw_lawmain.drop 56).take 2) = true := by decide +kernel
theorem ck_Lw_lawmain_58 : mj_ck 13 code (some .boolean) false ((bl_Lw_lawmain.drop 58).take 2) = true := by decide +kernel
theorem ck_Lw_lawmain_60 : mj_ck 13 code (some .boolean) false ((bl_Lw_lawmain.drop 60).take 2) = true := by decide +kernel
theorem ck_Lw_lawmain_62 : mj_ck 13 code (some .boolean) false ((bl_Lw_lawmain.drop 62).take 2) = true := by decide +kernel
theorem ck_Lw_lawmain_64 : mj_ck 13 code (some .boolean) false ((bl_Lw_lawmain.drop 64).take 2) = true := by decide +kernel
theorem ck_Lw_lawmain_66 : mj_ck 13 code (some .boolean) false ((bl_Lw_lawmain.drop 66).take 2) = true := by decide +kernel
theorem ck_Lw_lawmain_68 : mj_ck 13 code (some .boolean) false ((bl_Lw_lawmain.drop 68).take 2) = true := by decide +kernel
theorem ck_Lw_lawmain_70 : mj_ck 13 code (some .boolean) false ((bl_Lw_lawmain.drop 70).take 2) = true := by decide +kernel
theorem ck_Lw_lawmain_72 : mj_ck 13 code (some .boolean) false ((bl_Lw_lawmain.drop 72).take 2) = true := by decide +kernel
theorem ck_Lw_lawmain_74 : mj_ck 13 code (some .boolean) false ((bl_Lw_lawmain.drop 74).take 2) = true := by decide +kernel
theorem ck_Lw_lawmain_76 : mj_ck 13 code (some .boolean) false ((bl_Lw_lawmain.drop 76).take 2) = true := by decide +kernel
theorem ck_Lw_lawmain_78 : mj_ck 13 code (some .boolean) false ((bl_Lw_lawmain.drop 78).take 2) = true := by decide +kernel
theorem ck_Lw_lawmain_80 : mj_ck 13 code (some .boolean) false ((bl_Lw_lawmain.drop 80).take 2) = true := by decide +kernel
theorem ck_Lw_lawmain_82 : mj_ck 13 code (some .boolean) false ((bl_Lw_lawmain.drop 82).take 2) = true := by decide +kernel
theorem ck_Lw_lawmain_84 : mj_ck 13 code (some .boolean) false ((bl_Lw_lawmain.drop 84).take 2) = true := by decide +kernel
theorem ck_Lw_lawmain_86 : mj_ck 13 code (some .boolean) false ((bl_Lw_lawmain.drop 86).take 2) = true := by decide +kernel
theorem ck_Lw_lawmain_88 : mj_ck 13 code (some .boolean) false ((bl_Lw_lawmain.drop 88).take 2) = true := by decide +kernel
theorem ck_Lw_lawmain_90 : mj_ck 13 code (some .boolean) false ((bl_Lw_lawmain.drop 90).take 2) = true := by decide +kernel
theorem ck_Lw_lawmain_92 : mj_ck 13 code (some .boolean) false ((bl_Lw_lawmain.drop 92).take 2) = true := by decide +kernel
theorem ck_Lw_lawmain_94 : mj_ck 13 code (some .boolean) false ((bl_Lw_lawmain.drop 94).take 2) = true := by decide +kernel
theorem ck_Lw_lawmain_96 : mj_ck 13 code (some .boolean) false ((bl_Lw_lawmain.drop 96).take 2) = true := by decide +kernel
theorem ck_Lw_lawmain_98 : mj_ck 13 code (some .boolean) false ((bl_Lw_lawmain.drop 98).take 2) = true := by decide +kernel
theorem ck_Lw_lawmain_100 : mj_ck 13 code (some .boolean) false ((bl_Lw_lawmain.drop 100).take 2) = true := by decide +kernel
theorem ck_Lw_lawmain_102 : mj_ck 13 code (some .boolean) false ((bl_Lw_lawmain.drop 102).take 2) = true := by decide +kernel
theorem ck_Lw_lawmain_104 : mj_ck 13 code (some .boolean) false ((bl_Lw_lawmain.drop 104).take 2) = true := by decide +kernel
theorem ck_Lw_lawmain_106 : mj_ck 13 code (some .boolean) false ((bl_Lw_lawmain.drop 106).take 2) = true := by decide +kernel
theorem ck_Lw_lawmain_108 : mj_ck 13 code (some .boolean) false ((bl_Lw_lawmain.drop 108).take 2) = true := by decide +kernel
theorem ck_Lw_lawmain_110 : mj_ck 13 code (some .boolean) false ((bl_Lw_lawmain.drop 110).take 2) = true := by decide +kernel
theorem ck_Lw_lawmain_112 : mj_ck 13 code (some .boolean) false ((bl_Lw_lawmain.drop 112).take 2) = true := by decide +kernel
theorem ck_Lw_lawmain_114 : mj_ck 13 code (some .boolean) false ((bl_Lw_lawmain.drop 114).take 2) = true := by decide +kernel
theorem ck_Lw_lawmain_116 : mj_ck 13 code (some .boolean) false ((bl_Lw_lawmain.drop 116).take 2) = true := by decide +kernel
theorem ck_Lw_lawmain_118 : mj_ck 13 code (some .boolean) false ((bl_Lw_lawmain.drop 118).take 2) = true := by decide +kernel
theorem ck_Lw_lawmain_120 : mj_ck 13 code (some .boolean) false ((bl_Lw_lawmain.drop 120).take 2) = true := by decide +kernel
theorem ck_Lw_lawmain_122 : mj_ck 13 code (some .boolean) false ((bl_Lw_lawmain.drop 122).take 2) = true := by decide +kernel
theorem ck_Lw_lawmain_124 : mj_ck 13 code (some .boolean) false ((bl_Lw_lawmain.drop 124).take 2) = true := by decide +kernel
theorem ck_Lw_lawmain_126 : mj_ck 13 code (some .boolean) false ((bl_Lw_lawmain.drop 126).take 2) = true := by decide +kernel
theorem ck_Lw_lawmain_128 : mj_ck 13 code (some .boolean) false ((bl_Lw_lawmain.drop 128).take 2) = true := by decide +kernel
theorem ck_Lw_lawmain_130 : mj_ck 13 code (some .boolean) false ((bl_Lw_lawmain.drop 130).take 2) = true := by decide +kernel
theorem ck_Lw_lawmain_132 : mj_ck 13 code (some .boolean) false ((bl_Lw_lawmain.drop 132).take 2) = true := by decide +kernel
theorem ck_Lw_lawmain_134 : mj_ck 13 code (some .boolean) false ((bl_Lw_lawmain.drop 134).take 2) = true := by decide +kernel
theorem ck_Lw_lawmain_136 : mj_ck 13 code (some .boolean) false ((bl_Lw_lawmain.drop 136).take 2) = true := by decide +kernel
theorem ck_Lw_lawmain_138 : mj_ck 13 code (some .boolean) false ((bl_Lw_lawmain.drop 138).take 2) = true := by decide +kernel
theorem ck_Lw_lawmain_140 : mj_ck 13 code (some .boolean) false ((bl_Lw_lawmain.drop 140).take 2) = true := by decide +kernel
theorem ck_Lw_lawmain_142 : mj_ck 13 code (some .boolean) false ((bl_Lw_lawmain.drop 142).take 2) = true := by decide +kernel
theorem ck_Lw_lawmain_144 : mj_ck 13 code (some .boolean) false ((bl_Lw_lawmain.drop 144).take 2) = true := by decide +kernel
theorem ck_Lw_lawmain_146 : mj_ck 13 code (some .boolean) false ((bl_Lw_lawmain.drop 146).take 2) = true := by decide +kernel
theorem ck_Lw_lawmain_148 : mj_ck 13 code (some .boolean) false ((bl_Lw_lawmain.drop 148).take 2) = true := by decide +kernel
theorem ck_Lw_lawmain_150 : mj_ck 13 code (some .boolean) false ((bl_Lw_lawmain.drop 150).take 2) = true := by decide +kernel
theorem ck_Lw_lawmain_152 : mj_ck 13 code (some .boolean) false ((bl_Lw_lawmain.drop 152).take 2) = true := by decide +kernel
theorem ck_Lw_lawmain_154 : mj_ck 13 code (some .boolean) false ((bl_Lw_lawmain.drop 154).take 2) = true := by decide +kernel
theorem ck_Lw_lawmain_156 : mj_ck 13 code (some .boolean) false ((bl_Lw_lawmain.drop 156).take 2) = true := by decide +kernel
theorem ck_Lw_lawmain_158 : mj_ck 13 code (some .boolean) false ((bl_Lw_lawmain.drop 158).take 2) = true := by decide +kernel
theorem ck_Lw_lawmain_160 : mj_ck 13 code (some .boolean) false ((bl_Lw_lawmain.drop 160).take 2) = true := by decide +kernel
theorem ck_Lw_lawmain_162 : mj_ck 13 code (some .boolean) false ((bl_Lw_lawmain.drop 162).take 2) = true := by decide +kernel
theorem ck_Lw_lawmain_164 : mj_ck 13 code (some .boolean) false ((bl_Lw_lawmain.drop 164).take 2) = true := by decide +kernel
theorem ck_Lw_lawmain_166 : mj_ck 13 code (some .boolean) false ((bl_Lw_lawmain.drop 166).take 2) = true := by decide +kernel
theorem ck_Lw_lawmain : mj_ck 13 code (some .boolean) false bl_Lw_lawmain = true := by
  have h0 := ck_Lw_lawmain_0
  have h2 := ck_Lw_lawmain_2
  have h4 := ck_Lw_lawmain_4
  have h6 := ck_Lw_lawmain_6
  have h8 := ck_Lw_lawmain_8
  have h10 := ck_Lw_lawmain_10
  have h12 := ck_Lw_lawmain_12
  have h14 := ck_Lw_lawmain_14
  have h16 := ck_Lw_lawmain_16
  have h18 := ck_Lw_lawmain_18
  have h20 := ck_Lw_lawmain_20
  have h22 := ck_Lw_lawmain_22
  have h24 := ck_Lw_lawmain_24
  have h26 := ck_Lw_lawmain_26
  have h28 := ck_Lw_lawmain_28
  have h30 := ck_Lw_lawmain_30
  have h32 := ck_Lw_lawmain_32
  have h34 := ck_Lw_lawmain_34
  have h36 := ck_Lw_lawmain_36
  have h38 := ck_Lw_lawmain_38
  have h40 := ck_Lw_lawmain_40
  have h42 := ck_Lw_lawmain_42
  have h44 := ck_Lw_lawmain_44
  have h46 := ck_Lw_lawmain_46
  have h48 := ck_Lw_lawmain_48
  have h50 := ck_Lw_lawmain_50
  have h52 := ck_Lw_lawmain_52
  have h54 := ck_Lw_lawmain_54
  have h56 := ck_Lw_lawmain_56
  have h58 := ck_Lw_lawmain_58
  have h60 := ck_Lw_lawmain_60
  have h62 := ck_Lw_lawmain_62
  have h64 := ck_Lw_lawmain_64
  have h66 := ck_Lw_lawmain_66
  have h68 := ck_Lw_lawmain_68
  have h70 := ck_Lw_lawmain_70
  have h72 := ck_Lw_lawmain_72
  have h74 := ck_Lw_lawmain_74
  have h76 := ck_Lw_lawmain_76
  have h78 := ck_Lw_lawmain_78
  have h80 := ck_Lw_lawmain_80
  have h82 := ck_Lw_lawmain_82
  have h84 := ck_Lw_lawmain_84
  have h86 := ck_Lw_lawmain_86
  have h88 := ck_Lw_lawmain_88
  have h90 := ck_Lw_lawmain_90
  have h92 := ck_Lw_lawmain_92
  have h94 := ck_Lw_lawmain_94
  have h96 := ck_Lw_lawmain_96
  have h98 := ck_Lw_lawmain_98
  have h100 := ck_Lw_lawmain_100
  have h102 := ck_Lw_lawmain_102
  have h104 := ck_Lw_lawmain_104
  have h106 := ck_Lw_lawmain_106
  have h108 := ck_Lw_lawmain_108
  have h110 := ck_Lw_lawmain_110
  have h112 := ck_Lw_lawmain_112
  have h114 := ck_Lw_lawmain_114
  have h116 := ck_Lw_lawmain_116
  have h118 := ck_Lw_lawmain_118
  have h120 := ck_Lw_lawmain_120
  have h122 := ck_Lw_lawmain_122
  have h124 := ck_Lw_lawmain_124
  have h126 := ck_Lw_lawmain_126
  have h128 := ck_Lw_lawmain_128
  have h130 := ck_Lw_lawmain_130
  have h132 := ck_Lw_lawmain_132
  have h134 := ck_Lw_lawmain_134
  have h136 := ck_Lw_lawmain_136
  have h138 := ck_Lw_lawmain_138
  have h140 := ck_Lw_lawmain_140
  have h142 := ck_Lw_lawmain_142
  have h144 := ck_Lw_lawmain_144
  have h146 := ck_Lw_lawmain_146
  have h148 := ck_Lw_lawmain_148
  have h150 := ck_Lw_lawmain_150
  have h152 := ck_Lw_lawmain_152
  have h154 := ck_Lw_lawmain_154
  have h156 := ck_Lw_lawmain_156
  have h158 := ck_Lw_lawmain_158
  have h160 := ck_Lw_lawmain_160
  have h162 := ck_Lw_lawmain_162
  have h164 := ck_Lw_lawmain_164
  have h166 := ck_Lw_lawmain_166
  have e : bl_Lw_lawmain = (bl_Lw_lawmain.drop 0).take 2 ++ ((bl_Lw_lawmain.drop 2).take 2 ++ ((bl_Lw_lawmain.drop 4).take 2 ++ ((bl_Lw_lawmain.drop 6).take 2 ++ ((bl_Lw_lawmain.drop 8).take 2 ++ ((bl_Lw_lawmain.drop 10).take 2 ++ ((bl_Lw_lawmain.drop 12).take 2 ++ ((bl_Lw_lawmain.drop 14).take 2 ++ ((bl_Lw_lawmain.drop 16).take 2 ++ ((bl_Lw_lawmain.drop 18).take 2 ++ ((bl_Lw_lawmain.drop 20).take 2 ++ ((bl_Lw_lawmain.drop 22).take 2 ++ ((bl_Lw_lawmain.drop 24).take 2 ++ ((bl_Lw_lawmain.drop 26).take 2 ++ ((bl_Lw_lawmain.drop 28).take 2 ++ ((bl_Lw_lawmain.drop 30).take 2 ++ ((bl_Lw_lawmain.drop 32).take 2 ++ ((bl_Lw_lawmain.drop 34).take 2 ++ ((bl_Lw_lawmain.drop 36).take 2 ++ ((bl_Lw_lawmain.drop 38).take 2 ++ ((bl_Lw_lawmain.drop 40).take 2 ++ ((bl_Lw_lawmain.drop 42).take 2 ++ ((bl_Lw_lawmain.drop 44).take 2 ++ ((bl_Lw_lawmain.drop 46).take 2 ++ ((bl_Lw_lawmain.drop 48).take 2 ++ ((bl_Lw_lawmain.drop 50).take 2 ++ ((bl_Lw_lawmain.drop 52).take 2 ++ ((bl_Lw_lawmain.drop 54).take 2 ++ ((bl_Lw_lawmain.drop 56).take 2 ++ ((bl_Lw_lawmain.drop 58).take 2 ++ ((bl_Lw_lawmain.drop 60).take 2 ++ ((bl_Lw_lawmain.drop 62).take 2 ++ ((bl_Lw_lawmain.drop 64).take 2 ++ ((bl_Lw_lawmain.drop 66).take 2 ++ ((bl_Lw_lawmain.drop 68).take 2 ++ ((bl_Lw_lawmain.drop 70).take 2 ++ ((bl_Lw_lawmain.drop 72).take 2 ++ ((bl_Lw_lawmain.drop 74).take 2 ++ ((bl_Lw_lawmain.drop 76).take 2 ++ ((bl_Lw_lawmain.drop 78).take 2 ++ ((bl_Lw_lawmain.drop 80).take 2 ++ ((bl_Lw_lawmain.drop 82).take 2 ++ ((bl_Lw_lawmain.drop 84).take 2 ++ ((bl_Lw_lawmain.drop 86).take 2 ++ ((bl_Lw_lawmain.drop 88).take 2 ++ ((bl_Lw_lawmain.drop 90).take 2 ++ ((bl_Lw_lawmain.drop 92).take 2 ++ ((bl_Lw_lawmain.drop 94).take 2 ++ ((bl_Lw_lawmain.drop 96).take 2 ++ ((bl_Lw_lawmain.drop 98).take 2 ++ ((bl_Lw_lawmain.drop 100).take 2 ++ ((bl_Lw_lawmain.drop 102).take 2 ++ ((bl_Lw_lawmain.drop 104).take 2 ++ ((bl_Lw_lawmain.drop 106).take 2 ++ ((bl_Lw_lawmain.drop 108).take 2 ++ ((bl_Lw_lawmain.drop 110).take 2 ++ ((bl_Lw_lawmain.drop 112).take 2 ++ ((bl_Lw_lawmain.drop 114).take 2 ++ ((bl_Lw_lawmain.drop 116).take 2 ++ ((bl_Lw_lawmain.drop 118).take 2 ++ ((bl_Lw_lawmain.drop 120).take 2 ++ ((bl_Lw_lawmain.drop 122).take 2 ++ ((bl_Lw_lawmain.drop 124).take 2 ++ ((bl_Lw_lawmain.drop 126).take 2 ++ ((bl_Lw_lawmain.drop 128).take 2 ++ ((bl_Lw_lawmain.drop 130).take 2 ++ ((bl_Lw_lawmain.drop 132).take 2 ++ ((bl_Lw_lawmain.drop 134).take 2 ++ ((bl_Lw_lawmain.drop 136).take 2 ++ ((bl_Lw_lawmain.drop 138).take 2 ++ ((bl_Lw_lawmain.drop 140).take 2 ++ ((bl_Lw_lawmain.drop 142).take 2 ++ ((bl_Lw_lawmain.drop 144).take 2 ++ ((bl_Lw_lawmain.drop 146).take 2 ++ ((bl_Lw_lawmain.drop 148).take 2 ++ ((bl_Lw_lawmain.drop 150).take 2 ++ ((bl_Lw_lawmain.drop 152).take 2 ++ ((bl_Lw_lawmain.drop 154).take 2 ++ ((bl_Lw_lawmain.drop 156).take 2 ++ ((bl_Lw_lawmain.drop 158).take 2 ++ ((bl_Lw_lawmain.drop 160).take 2 ++ ((bl_Lw_lawmain.drop 162).take 2 ++ ((bl_Lw_lawmain.drop 164).take 2 ++ ((bl_Lw_lawmain.drop 166).take 2))))))))))))))))))))))))))))))))))))))))))))))))))))))))))))))))))))))))))))))))))) := by decide +kernel
  rw [e]; unfold mj_ck at *; simp only [List.all_append, Bool.and_eq_true]; exact ⟨h0, h2, h4, h6, h8, h10, h12, h14, h16, h18, h20, h22, h24, h26, h28, h30, h32, h34, h36, h38, h40, h42, h44, h46, h48, h50, h52, h54, h56, h58, h60, h62, h64, h66, h68, h70, h72, h74, h76, h78, h80, h82, h84, h86, h88, h90, h92, h94, h96, h98, h100, h102, h104, h106, h108, h110, h112, h114, h116, h118, h120, h122, h124, h126, h128, h130, h132, h134, h136, h138, h140, h142, h144, h146, h148, h150, h152, h154, h156, h158, h160, h162, h164, h166⟩
