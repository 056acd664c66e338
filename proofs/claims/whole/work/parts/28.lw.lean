theorem B_Lw_holt_0 : mj_bl j_Lw_holt 0 = some ([(0, .aload 1), (1, .iconst 0), (2, .aload 0), (3, .invokevirtual 395552), (6, .i2l), (7, .lastore), (8, .goto 17)], 11) := by rfl
theorem B_Lw_holt_11 : mj_bl j_Lw_holt 11 = some ([(11, .astore 2), (12, .iconst 1), (13, .ireturn)], 14) := by rfl
theorem B_Lw_holt_14 : mj_bl j_Lw_holt 14 = some ([(14, .astore 2), (15, .iconst 2), (16, .ireturn)], 17) := by rfl
theorem B_Lw_holt_17 : mj_bl j_Lw_holt 17 = some ([(17, .iconst 0), (18, .ireturn)], 19) := by rfl
theorem B_Lw_law_0 : mj_bl j_Lw_law 0 = some ([(0, .aload 1), (1, .iconst 0), (2, .aload 0), (3, .invokevirtual 526624), (6, .i2l), (7, .lastore), (8, .goto 14)], 11) := by rfl
theorem B_Lw_law_11 : mj_bl j_Lw_law 11 = some ([(11, .astore 2), (12, .iconst 1), (13, .ireturn)], 14) := by rfl
theorem B_Lw_law_14 : mj_bl j_Lw_law 14 = some ([(14, .iconst 0), (15, .ireturn)], 16) := by rfl
theorem B_Lw_bed_0 : mj_bl j_Lw_bed 0 = some ([(0, .aload 3), (1, .iconst 0), (2, .aload 0), (3, .iload 1), (4, .iload 2), (5, .invokevirtual 789794), (8, .i2l), (9, .lastore), (10, .goto 21)], 13) := by rfl
theorem B_Lw_bed_13 : mj_bl j_Lw_bed 13 = some ([(13, .astore 4), (15, .iconst 1), (16, .ireturn)], 17) := by rfl
theorem B_Lw_bed_17 : mj_bl j_Lw_bed 17 = some ([(17, .astore 4), (19, .iconst 2), (20, .ireturn)], 21) := by rfl
theorem B_Lw_bed_21 : mj_bl j_Lw_bed 21 = some ([(21, .iconst 0), (22, .ireturn)], 23) := by rfl
theorem B_Lw_basket_0 : mj_bl j_Lw_basket 0 = some ([(0, .aload 3), (1, .iconst 0), (2, .aload 0), (3, .iload 1), (4, .iload 2), (5, .invokevirtual 921890), (8, .i2l), (9, .lastore), (10, .goto 21)], 13) := by rfl
theorem B_Lw_basket_13 : mj_bl j_Lw_basket 13 = some ([(13, .astore 4), (15, .iconst 1), (16, .ireturn)], 17) := by rfl
theorem B_Lw_basket_17 : mj_bl j_Lw_basket 17 = some ([(17, .astore 4), (19, .iconst 2), (20, .ireturn)], 21) := by rfl
theorem B_Lw_basket_21 : mj_bl j_Lw_basket 21 = some ([(21, .iconst 0), (22, .ireturn)], 23) := by rfl
theorem B_Lw_run_0 : mj_bl j_Lw_run 0 = some ([(0, .aload 3), (1, .iconst 0), (2, .aload 0), (3, .iload 1), (4, .iload 2), (5, .invokevirtual 1051938), (8, .i2l), (9, .lastore), (10, .goto 17)], 13) := by rfl
theorem B_Lw_run_13 : mj_bl j_Lw_run 13 = some ([(13, .astore 4), (15, .iconst 1), (16, .ireturn)], 17) := by rfl
theorem B_Lw_run_17 : mj_bl j_Lw_run 17 = some ([(17, .iconst 0), (18, .ireturn)], 19) := by rfl
theorem B_Lw_over_0 : mj_bl j_Lw_over 0 = some ([(0, .aload 4), (2, .iconst 0), (3, .aload 0), (4, .iload 1), (5, .iload 2), (6, .iload 3), (7, .invokevirtual 1250595), (10, .ifCond .eq 17), (13, .ldc2_w 1), (14, .goto 18)], 17) := by rfl
theorem B_Lw_over_17 : mj_bl j_Lw_over 17 = some ([(17, .ldc2_w 0)], 18) := by rfl
theorem B_Lw_over_18 : mj_bl j_Lw_over 18 = some ([(18, .lastore), (19, .goto 30)], 22) := by rfl
theorem B_Lw_over_22 : mj_bl j_Lw_over 22 = some ([(22, .astore 5), (24, .iconst 1), (25, .ireturn)], 26) := by rfl
theorem B_Lw_over_26 : mj_bl j_Lw_over 26 = some ([(26, .astore 5), (28, .iconst 2), (29, .ireturn)], 30) := by rfl
theorem B_Lw_over_30 : mj_bl j_Lw_over 30 = some ([(30, .iconst 0), (31, .ireturn)], 32) := by rfl
theorem B_Lw_sound_0 : mj_bl j_Lw_sound 0 = some ([(0, .aload 2), (1, .iconst 0), (2, .aload 0), (3, .iload 1), (4, .invokevirtual 1378593), (7, .ifCond .eq 14), (10, .ldc2_w 1), (11, .goto 15)], 14) := by rfl
theorem B_Lw_sound_14 : mj_bl j_Lw_sound 14 = some ([(14, .ldc2_w 0)], 15) := by rfl
theorem B_Lw_sound_15 : mj_bl j_Lw_sound 15 = some ([(15, .lastore), (16, .goto 22)], 19) := by rfl
theorem B_Lw_sound_19 : mj_bl j_Lw_sound 19 = some ([(19, .astore 3), (20, .iconst 1), (21, .ireturn)], 22) := by rfl
theorem B_Lw_sound_22 : mj_bl j_Lw_sound 22 = some ([(22, .iconst 0), (23, .ireturn)], 24) := by rfl
theorem B_Lw_store_0 : mj_bl j_Lw_store 0 = some ([(0, .aload 2), (1, .iconst 0), (2, .aload 0), (3, .iload 1), (4, .invokevirtual 1444129), (7, .i2l), (8, .lastore), (9, .goto 15)], 12) := by rfl
theorem B_Lw_store_12 : mj_bl j_Lw_store 12 = some ([(12, .astore 3), (13, .iconst 1), (14, .ireturn)], 15) := by rfl
theorem B_Lw_store_15 : mj_bl j_Lw_store 15 = some ([(15, .iconst 0), (16, .ireturn)], 17) := by rfl
theorem B_Lw_hand_0 : mj_bl j_Lw_hand 0 = some ([(0, .aload 3), (1, .iconst 0), (2, .aload 0), (3, .iload 1), (4, .iload 2), (5, .invokevirtual 1576226), (8, .i2l), (9, .lastore), (10, .goto 17)], 13) := by rfl
theorem B_Lw_hand_13 : mj_bl j_Lw_hand 13 = some ([(13, .astore 4), (15, .iconst 1), (16, .ireturn)], 17) := by rfl
theorem B_Lw_hand_17 : mj_bl j_Lw_hand 17 = some ([(17, .iconst 0), (18, .ireturn)], 19) := by rfl
theorem B_Lw_order_0 : mj_bl j_Lw_order 0 = some ([(0, .aload 3), (1, .iconst 0), (2, .aload 0), (3, .iload 1), (4, .iload 2), (5, .invokevirtual 1707298), (8, .i2l), (9, .lastore), (10, .goto 21)], 13) := by rfl
theorem B_Lw_order_13 : mj_bl j_Lw_order 13 = some ([(13, .astore 4), (15, .iconst 1), (16, .ireturn)], 17) := by rfl
theorem B_Lw_order_17 : mj_bl j_Lw_order 17 = some ([(17, .astore 4), (19, .iconst 2), (20, .ireturn)], 21) := by rfl
theorem B_Lw_order_21 : mj_bl j_Lw_order 21 = some ([(21, .iconst 0), (22, .ireturn)], 23) := by rfl
theorem B_Lw_years_0 : mj_bl j_Lw_years 0 = some ([(0, .aload 2), (1, .iconst 0), (2, .aload 0), (3, .iload 1), (4, .invokevirtual 1837345), (7, .i2l), (8, .lastore), (9, .goto 15)], 12) := by rfl
theorem B_Lw_years_12 : mj_bl j_Lw_years 12 = some ([(12, .astore 3), (13, .iconst 1), (14, .ireturn)], 15) := by rfl
theorem B_Lw_years_15 : mj_bl j_Lw_years 15 = some ([(15, .iconst 0), (16, .ireturn)], 17) := by rfl
theorem B_Lw_cut_0 : mj_bl j_Lw_cut 0 = some ([(0, .aload 2), (1, .iconst 0), (2, .aload 0), (3, .iload 1), (4, .invokevirtual 1971489), (7, .i2l), (8, .lastore), (9, .goto 18)], 12) := by rfl
theorem B_Lw_cut_12 : mj_bl j_Lw_cut 12 = some ([(12, .astore 3), (13, .iconst 1), (14, .ireturn)], 15) := by rfl
theorem B_Lw_cut_15 : mj_bl j_Lw_cut 15 = some ([(15, .astore 3), (16, .iconst 2), (17, .ireturn)], 18) := by rfl
theorem B_Lw_cut_18 : mj_bl j_Lw_cut 18 = some ([(18, .iconst 0), (19, .ireturn)], 20) := by rfl
theorem B_Lw_buy_0 : mj_bl j_Lw_buy 0 = some ([(0, .aload 3), (1, .iconst 0), (2, .aload 0), (3, .iload 1), (4, .iload 2), (5, .invokevirtual 2100514), (8, .i2l), (9, .lastore), (10, .goto 25)], 13) := by rfl
theorem B_Lw_buy_13 : mj_bl j_Lw_buy 13 = some ([(13, .astore 4), (15, .iconst 1), (16, .ireturn)], 17) := by rfl
theorem B_Lw_buy_17 : mj_bl j_Lw_buy 17 = some ([(17, .astore 4), (19, .iconst 2), (20, .ireturn)], 21) := by rfl
theorem B_Lw_buy_21 : mj_bl j_Lw_buy 21 = some ([(21, .astore 4), (23, .iconst 3), (24, .ireturn)], 25) := by rfl
theorem B_Lw_buy_25 : mj_bl j_Lw_buy 25 = some ([(25, .iconst 0), (26, .ireturn)], 27) := by rfl
theorem B_Lw_sell_0 : mj_bl j_Lw_sell 0 = some ([(0, .aload 3), (1, .iconst 0), (2, .aload 0), (3, .iload 1), (4, .iload 2), (5, .invokevirtual 2231586), (8, .i2l), (9, .lastore), (10, .goto 25)], 13) := by rfl
theorem B_Lw_sell_13 : mj_bl j_Lw_sell 13 = some ([(13, .astore 4), (15, .iconst 1), (16, .ireturn)], 17) := by rfl
theorem B_Lw_sell_17 : mj_bl j_Lw_sell 17 = some ([(17, .astore 4), (19, .iconst 2), (20, .ireturn)], 21) := by rfl
theorem B_Lw_sell_21 : mj_bl j_Lw_sell 21 = some ([(21, .astore 4), (23, .iconst 3), (24, .ireturn)], 25) := by rfl
theorem B_Lw_sell_25 : mj_bl j_Lw_sell 25 = some ([(25, .iconst 0), (26, .ireturn)], 27) := by rfl
theorem B_Lw_take_0 : mj_bl j_Lw_take 0 = some ([(0, .aload 3), (1, .iconst 0), (2, .aload 0), (3, .iload 1), (4, .iload 2), (5, .invokevirtual 2362658), (8, .i2l), (9, .lastore), (10, .goto 25)], 13) := by rfl
theorem B_Lw_take_13 : mj_bl j_Lw_take 13 = some ([(13, .astore 4), (15, .iconst 1), (16, .ireturn)], 17) := by rfl
theorem B_Lw_take_17 : mj_bl j_Lw_take 17 = some ([(17, .astore 4), (19, .iconst 2), (20, .ireturn)], 21) := by rfl
theorem B_Lw_take_21 : mj_bl j_Lw_take 21 = some ([(21, .astore 4), (23, .iconst 3), (24, .ireturn)], 25) := by rfl
theorem B_Lw_take_25 : mj_bl j_Lw_take 25 = some ([(25, .iconst 0), (26, .ireturn)], 27) := by rfl
theorem B_Lw_drop_0 : mj_bl j_Lw_drop 0 = some ([(0, .aload 0), (1, .iload 1), (2, .invokevirtual 2492705), (5, .goto 14)], 8) := by rfl
theorem B_Lw_drop_8 : mj_bl j_Lw_drop 8 = some ([(8, .astore 2), (9, .iconst 1), (10, .ireturn)], 11) := by rfl
theorem B_Lw_drop_11 : mj_bl j_Lw_drop 11 = some ([(11, .astore 2), (12, .iconst 2), (13, .ireturn)], 14) := by rfl
theorem B_Lw_drop_14 : mj_bl j_Lw_drop 14 = some ([(14, .iconst 0), (15, .ireturn)], 16) := by rfl
theorem B_Lw_drain_0 : mj_bl j_Lw_drain 0 = some ([(0, .aload 3), (1, .iconst 0), (2, .aload 0), (3, .iload 1), (4, .iload 2), (5, .invokevirtual 2625826), (8, .i2l), (9, .lastore), (10, .goto 21)], 13) := by rfl
theorem B_Lw_drain_13 : mj_bl j_Lw_drain 13 = some ([(13, .astore 4), (15, .iconst 1), (16, .ireturn)], 17) := by rfl
theorem B_Lw_drain_17 : mj_bl j_Lw_drain 17 = some ([(17, .astore 4), (19, .iconst 2), (20, .ireturn)], 21) := by rfl
theorem B_Lw_drain_21 : mj_bl j_Lw_drain 21 = some ([(21, .iconst 0), (22, .ireturn)], 23) := by rfl
theorem B_Lw_hire_0 : mj_bl j_Lw_hire 0 = some ([(0, .aload 3), (1, .iconst 0), (2, .aload 0), (3, .iload 1), (4, .iload 2), (5, .invokevirtual 2755874), (8, .i2l), (9, .lastore), (10, .goto 21)], 13) := by rfl
theorem B_Lw_hire_13 : mj_bl j_Lw_hire 13 = some ([(13, .astore 4), (15, .iconst 1), (16, .ireturn)], 17) := by rfl
theorem B_Lw_hire_17 : mj_bl j_Lw_hire 17 = some ([(17, .astore 4), (19, .iconst 2), (20, .ireturn)], 21) := by rfl
theorem B_Lw_hire_21 : mj_bl j_Lw_hire 21 = some ([(21, .iconst 0), (22, .ireturn)], 23) := by rfl
theorem B_Lw_teach_0 : mj_bl j_Lw_teach 0 = some ([(0, .aload 2), (1, .iconst 0), (2, .aload 0), (3, .iload 1), (4, .invokevirtual 2885921), (7, .i2l), (8, .lastore), (9, .goto 15)], 12) := by rfl
theorem B_Lw_teach_12 : mj_bl j_Lw_teach 12 = some ([(12, .astore 3), (13, .iconst 1), (14, .ireturn)], 15) := by rfl
theorem B_Lw_teach_15 : mj_bl j_Lw_teach 15 = some ([(15, .iconst 0), (16, .ireturn)], 17) := by rfl
theorem B_Lw_make_0 : mj_bl j_Lw_make 0 = some ([(0, .aload 2), (1, .iconst 0), (2, .aload 0), (3, .iload 1), (4, .invokevirtual 3016993), (7, .i2l), (8, .lastore), (9, .goto 18)], 12) := by rfl
theorem B_Lw_make_12 : mj_bl j_Lw_make 12 = some ([(12, .astore 3), (13, .iconst 1), (14, .ireturn)], 15) := by rfl
theorem B_Lw_make_15 : mj_bl j_Lw_make 15 = some ([(15, .astore 3), (16, .iconst 2), (17, .ireturn)], 18) := by rfl
theorem B_Lw_make_18 : mj_bl j_Lw_make 18 = some ([(18, .iconst 0), (19, .ireturn)], 20) := by rfl
theorem B_Lw_gain_0 : mj_bl j_Lw_gain 0 = some ([(0, .aload 3), (1, .iconst 0), (2, .aload 0), (3, .iload 1), (4, .iload 2), (5, .invokevirtual 3149090), (8, .i2l), (9, .lastore), (10, .goto 21)], 13) := by rfl
theorem B_Lw_gain_13 : mj_bl j_Lw_gain 13 = some ([(13, .astore 4), (15, .iconst 1), (16, .ireturn)], 17) := by rfl
theorem B_Lw_gain_17 : mj_bl j_Lw_gain 17 = some ([(17, .astore 4), (19, .iconst 2), (20, .ireturn)], 21) := by rfl
theorem B_Lw_gain_21 : mj_bl j_Lw_gain 21 = some ([(21, .iconst 0), (22, .ireturn)], 23) := by rfl
theorem B_Lw_cuts_0 : mj_bl j_Lw_cuts 0 = some ([(0, .aload 3), (1, .iconst 0), (2, .aload 0), (3, .iload 1), (4, .iload 2), (5, .invokevirtual 3280162), (8, .i2l), (9, .lastore), (10, .goto 21)], 13) := by rfl
theorem B_Lw_cuts_13 : mj_bl j_Lw_cuts 13 = some ([(13, .astore 4), (15, .iconst 1), (16, .ireturn)], 17) := by rfl
theorem B_Lw_cuts_17 : mj_bl j_Lw_cuts 17 = some ([(17, .astore 4), (19, .iconst 2), (20, .ireturn)], 21) := by rfl
theorem B_Lw_cuts_21 : mj_bl j_Lw_cuts 21 = some ([(21, .iconst 0), (22, .ireturn)], 23) := by rfl
theorem B_Lw_pieces_0 : mj_bl j_Lw_pieces 0 = some ([(0, .aload 2), (1, .iconst 0), (2, .aload 0), (3, .iload 1), (4, .invokevirtual 3673377), (7, .i2l), (8, .lastore), (9, .goto 18)], 12) := by rfl
theorem B_Lw_pieces_12 : mj_bl j_Lw_pieces 12 = some ([(12, .astore 3), (13, .iconst 1), (14, .ireturn)], 15) := by rfl
theorem B_Lw_pieces_15 : mj_bl j_Lw_pieces 15 = some ([(15, .astore 3), (16, .iconst 2), (17, .ireturn)], 18) := by rfl
theorem B_Lw_pieces_18 : mj_bl j_Lw_pieces 18 = some ([(18, .iconst 0), (19, .ireturn)], 20) := by rfl
theorem B_Lw_rod_0 : mj_bl j_Lw_rod 0 = some ([(0, .aload 3), (1, .iconst 0), (2, .aload 0), (3, .iload 1), (4, .iload 2), (5, .invokevirtual 3805474), (8, .i2l), (9, .lastore), (10, .goto 21)], 13) := by rfl
theorem B_Lw_rod_13 : mj_bl j_Lw_rod 13 = some ([(13, .astore 4), (15, .iconst 1), (16, .ireturn)], 17) := by rfl
theorem B_Lw_rod_17 : mj_bl j_Lw_rod 17 = some ([(17, .astore 4), (19, .iconst 2), (20, .ireturn)], 21) := by rfl
theorem B_Lw_rod_21 : mj_bl j_Lw_rod 21 = some ([(21, .iconst 0), (22, .ireturn)], 23) := by rfl
theorem B_Lw_found_0 : mj_bl j_Lw_found 0 = some ([(0, .aload 2), (1, .iconst 0), (2, .aload 0), (3, .iload 1), (4, .invokevirtual 3934497), (7, .i2l), (8, .lastore), (9, .goto 15)], 12) := by rfl
theorem B_Lw_found_12 : mj_bl j_Lw_found 12 = some ([(12, .astore 3), (13, .iconst 1), (14, .ireturn)], 15) := by rfl
theorem B_Lw_found_15 : mj_bl j_Lw_found 15 = some ([(15, .iconst 0), (16, .ireturn)], 17) := by rfl
theorem B_Lw_look_0 : mj_bl j_Lw_look 0 = some ([(0, .aload 1), (1, .iconst 0), (2, .aload 0), (3, .invokevirtual 4064544), (6, .i2l), (7, .lastore), (8, .goto 14)], 11) := by rfl
theorem B_Lw_look_11 : mj_bl j_Lw_look 11 = some ([(11, .astore 2), (12, .iconst 1), (13, .ireturn)], 14) := by rfl
theorem B_Lw_look_14 : mj_bl j_Lw_look 14 = some ([(14, .iconst 0), (15, .ireturn)], 16) := by rfl
theorem B_Lw_team_0 : mj_bl j_Lw_team 0 = some ([(0, .aload 2), (1, .iconst 0), (2, .aload 0), (3, .iload 1), (4, .invokevirtual 4197665), (7, .i2l), (8, .lastore), (9, .goto 15)], 12) := by rfl
theorem B_Lw_team_12 : mj_bl j_Lw_team 12 = some ([(12, .astore 3), (13, .iconst 1), (14, .ireturn)], 15) := by rfl
theorem B_Lw_team_15 : mj_bl j_Lw_team 15 = some ([(15, .iconst 0), (16, .ireturn)], 17) := by rfl
theorem B_Lw_pairs_0 : mj_bl j_Lw_pairs 0 = some ([(0, .aload 2), (1, .iconst 0), (2, .aload 0), (3, .iload 1), (4, .invokevirtual 4328737), (7, .i2l), (8, .lastore), (9, .goto 15)], 12) := by rfl
theorem B_Lw_pairs_12 : mj_bl j_Lw_pairs 12 = some ([(12, .astore 3), (13, .iconst 1), (14, .ireturn)], 15) := by rfl
theorem B_Lw_pairs_15 : mj_bl j_Lw_pairs 15 = some ([(15, .iconst 0), (16, .ireturn)], 17) := by rfl
theorem B_Lw_change_0 : mj_bl j_Lw_change 0 = some ([(0, .aload 3), (1, .iconst 0), (2, .aload 0), (3, .iload 1), (4, .iload 2), (5, .invokevirtual 4459810), (8, .i2l), (9, .lastore), (10, .goto 17)], 13) := by rfl
theorem B_Lw_change_13 : mj_bl j_Lw_change 13 = some ([(13, .astore 4), (15, .iconst 1), (16, .ireturn)], 17) := by rfl
theorem B_Lw_change_17 : mj_bl j_Lw_change 17 = some ([(17, .iconst 0), (18, .ireturn)], 19) := by rfl
theorem B_Lw_share_0 : mj_bl j_Lw_share 0 = some ([(0, .aload 3), (1, .iconst 0), (2, .aload 0), (3, .iload 1), (4, .iload 2), (5, .invokevirtual 4590882), (8, .i2l), (9, .lastore), (10, .goto 21)], 13) := by rfl
theorem B_Lw_share_13 : mj_bl j_Lw_share 13 = some ([(13, .astore 4), (15, .iconst 1), (16, .ireturn)], 17) := by rfl
theorem B_Lw_share_17 : mj_bl j_Lw_share 17 = some ([(17, .astore 4), (19, .iconst 2), (20, .ireturn)], 21) := by rfl
theorem B_Lw_share_21 : mj_bl j_Lw_share 21 = some ([(21, .iconst 0), (22, .ireturn)], 23) := by rfl
theorem B_Lw_price_0 : mj_bl j_Lw_price 0 = some ([(0, .aload 2), (1, .iconst 0), (2, .aload 0), (3, .iload 1), (4, .invokevirtual 4720929), (7, .i2l), (8, .lastore), (9, .goto 15)], 12) := by rfl
theorem B_Lw_price_12 : mj_bl j_Lw_price 12 = some ([(12, .astore 3), (13, .iconst 1), (14, .ireturn)], 15) := by rfl
theorem B_Lw_price_15 : mj_bl j_Lw_price 15 = some ([(15, .iconst 0), (16, .ireturn)], 17) := by rfl
theorem B_Lw_rests_0 : mj_bl j_Lw_rests 0 = some ([(0, .aload 2), (1, .iconst 0), (2, .aload 0), (3, .iload 1), (4, .invokevirtual 4855073), (7, .i2l), (8, .lastore), (9, .goto 15)], 12) := by rfl
theorem B_Lw_rests_12 : mj_bl j_Lw_rests 12 = some ([(12, .astore 3), (13, .iconst 1), (14, .ireturn)], 15) := by rfl
theorem B_Lw_rests_15 : mj_bl j_Lw_rests 15 = some ([(15, .iconst 0), (16, .ireturn)], 17) := by rfl
theorem B_Lw_odds_0 : mj_bl j_Lw_odds 0 = some ([(0, .aload 3), (1, .iconst 0), (2, .aload 0), (3, .iload 1), (4, .iload 2), (5, .invokevirtual 4989218), (8, .i2l), (9, .lastore), (10, .goto 17)], 13) := by rfl
theorem B_Lw_odds_13 : mj_bl j_Lw_odds 13 = some ([(13, .astore 4), (15, .iconst 1), (16, .ireturn)], 17) := by rfl
theorem B_Lw_odds_17 : mj_bl j_Lw_odds 17 = some ([(17, .iconst 0), (18, .ireturn)], 19) := by rfl
theorem B_Lw_most_0 : mj_bl j_Lw_most 0 = some ([(0, .aload 2), (1, .iconst 0), (2, .aload 0), (3, .iload 1), (4, .invokevirtual 5114145), (7, .i2l), (8, .lastore), (9, .goto 15)], 12) := by rfl
theorem B_Lw_most_12 : mj_bl j_Lw_most 12 = some ([(12, .astore 3), (13, .iconst 1), (14, .ireturn)], 15) := by rfl
theorem B_Lw_most_15 : mj_bl j_Lw_most 15 = some ([(15, .iconst 0), (16, .ireturn)], 17) := by rfl
theorem B_Lw_sort_0 : mj_bl j_Lw_sort 0 = some ([(0, .aload 2), (1, .iconst 0), (2, .aload 0), (3, .iload 1), (4, .invokevirtual 5507361), (7, .i2l), (8, .lastore), (9, .goto 15)], 12) := by rfl
theorem B_Lw_sort_12 : mj_bl j_Lw_sort 12 = some ([(12, .astore 3), (13, .iconst 1), (14, .ireturn)], 15) := by rfl
theorem B_Lw_sort_15 : mj_bl j_Lw_sort 15 = some ([(15, .iconst 0), (16, .ireturn)], 17) := by rfl
theorem B_Lw_ahead_0 : mj_bl j_Lw_ahead 0 = some ([(0, .aload 4), (2, .iconst 0), (3, .aload 0), (4, .iload 1), (5, .iload 2), (6, .iload 3), (7, .invokevirtual 5771555), (10, .i2l), (11, .lastore), (12, .goto 23)], 15) := by rfl
theorem B_Lw_ahead_15 : mj_bl j_Lw_ahead 15 = some ([(15, .astore 5), (17, .iconst 1), (18, .ireturn)], 19) := by rfl
theorem B_Lw_ahead_19 : mj_bl j_Lw_ahead 19 = some ([(19, .astore 5), (21, .iconst 2), (22, .ireturn)], 23) := by rfl
theorem B_Lw_ahead_23 : mj_bl j_Lw_ahead 23 = some ([(23, .iconst 0), (24, .ireturn)], 25) := by rfl
theorem B_Lw_trial_0 : mj_bl j_Lw_trial 0 = some ([(0, .aload 3), (1, .iconst 0), (2, .aload 0), (3, .iload 1), (4, .iload 2), (5, .invokevirtual 5901602), (8, .i2l), (9, .lastore), (10, .goto 17)], 13) := by rfl
theorem B_Lw_trial_13 : mj_bl j_Lw_trial 13 = some ([(13, .astore 4), (15, .iconst 1), (16, .ireturn)], 17) := by rfl
theorem B_Lw_trial_17 : mj_bl j_Lw_trial 17 = some ([(17, .iconst 0), (18, .ireturn)], 19) := by rfl
theorem B_Lw_span_0 : mj_bl j_Lw_span 0 = some ([(0, .aload 3), (1, .iconst 0), (2, .aload 0), (3, .iload 1), (4, .iload 2), (5, .invokevirtual 6034722), (8, .i2l), (9, .lastore), (10, .goto 17)], 13) := by rfl
theorem B_Lw_span_13 : mj_bl j_Lw_span 13 = some ([(13, .astore 4), (15, .iconst 1), (16, .ireturn)], 17) := by rfl
theorem B_Lw_span_17 : mj_bl j_Lw_span 17 = some ([(17, .iconst 0), (18, .ireturn)], 19) := by rfl
theorem B_Lw_led_0 : mj_bl j_Lw_led 0 = some ([(0, .aload 3), (1, .iconst 0), (2, .aload 0), (3, .iload 1), (4, .iload 2), (5, .invokevirtual 6163746), (8, .i2l), (9, .lastore), (10, .goto 17)], 13) := by rfl
theorem B_Lw_led_13 : mj_bl j_Lw_led 13 = some ([(13, .astore 4), (15, .iconst 1), (16, .ireturn)], 17) := by rfl
theorem B_Lw_led_17 : mj_bl j_Lw_led 17 = some ([(17, .iconst 0), (18, .ireturn)], 19) := by rfl
theorem B_Lw_log_0 : mj_bl j_Lw_log 0 = some ([(0, .aload 3), (1, .iconst 0), (2, .aload 0), (3, .iload 1), (4, .iload 2), (5, .invokevirtual 6294818), (8, .i2l), (9, .lastore), (10, .goto 17)], 13) := by rfl
theorem B_Lw_log_13 : mj_bl j_Lw_log 13 = some ([(13, .astore 4), (15, .iconst 1), (16, .ireturn)], 17) := by rfl
theorem B_Lw_log_17 : mj_bl j_Lw_log 17 = some ([(17, .iconst 0), (18, .ireturn)], 19) := by rfl
theorem B_Lw_lawmain_268 : mj_bl j_Lw_lawmain 268 = some ([(268, .aload 1), (269, .aload 0), (270, .iload 4), (272, .iconst 1), (273, .iadd), (274, .iaload), (275, .aload 0), (276, .iload 4), (278, .iconst 2), (279, .iadd), (280, .iaload), (281, .aload 0), (282, .iload 4), (284, .iconst 3), (285, .iadd), (286, .iaload), (287, .aload 0), (288, .iload 4), (290, .iconst 4), (291, .iadd), (292, .iaload), (293, .aload 0), (294, .iload 4), (296, .iconst 5), (297, .iadd), (298, .iaload), (299, .invokevirtual 137509), (302, .aload 2), (303, .aload 0), (304, .iload 4), (306, .iconst 1), (307, .iadd), (308, .iaload), (309, .aload 0), (310, .iload 4), (312, .iconst 2), (313, .iadd), (314, .iaload), (315, .aload 0), (316, .iload 4), (318, .iconst 3), (319, .iadd), (320, .iaload), (321, .aload 0), (322, .iload 4), (324, .iconst 4), (325, .iadd), (326, .iaload), (327, .aload 0), (328, .iload 4), (330, .iconst 5), (331, .iadd), (332, .iaload), (333, .invokevirtual 11018565), (336, .if_icmp .eq 3141), (339, .iconst 0), (340, .ireturn)], 341) := by rfl
theorem B_Lw_lawmain_341 : mj_bl j_Lw_lawmain 341 = some ([(341, .aload 1), (342, .aload 0), (343, .iload 4), (345, .iconst 1), (346, .iadd), (347, .iaload), (348, .invokevirtual 330017), (351, .aload 2), (352, .aload 0), (353, .iload 4), (355, .iconst 1), (356, .iadd), (357, .iaload), (358, .invokevirtual 11209025), (361, .if_icmp .eq 3141), (364, .iconst 0), (365, .ireturn)], 366) := by rfl
theorem B_Lw_lawmain_366 : mj_bl j_Lw_lawmain 366 = some ([(366, .aload 1), (367, .aload 3), (368, .invokestatic 45092258), (371, .istore 5), (373, .aload 2), (374, .invokevirtual 14420288), (377, .istore 6), (379, .aload 2), (380, .invokevirtual 8914240), (383, .iload 5), (385, .if_icmp .eq 390), (388, .iconst 0), (389, .ireturn)], 390) := by rfl
theorem B_Lw_lawmain_390 : mj_bl j_Lw_lawmain 390 = some ([(390, .iload 5), (392, .ifCond .ne 407), (395, .aload 3), (396, .iconst 0), (397, .laload), (398, .iload 6), (400, .i2l), (401, .lcmp), (402, .ifCond .eq 407), (405, .iconst 0), (406, .ireturn)], 407) := by rfl
theorem B_Lw_lawmain_407 : mj_bl j_Lw_lawmain 407 = some ([(407, .goto 3141)], 410) := by rfl
theorem B_Lw_lawmain_410 : mj_bl j_Lw_lawmain 410 = some ([(410, .aload 1), (411, .aload 3), (412, .invokestatic 45223330), (415, .istore 5), (417, .aload 2), (418, .invokevirtual 15469888), (421, .istore 6), (423, .aload 2), (424, .invokevirtual 8914240), (427, .iload 5), (429, .if_icmp .eq 434), (432, .iconst 0), (433, .ireturn)], 434) := by rfl
theorem B_Lw_lawmain_434 : mj_bl j_Lw_lawmain 434 = some ([(434, .iload 5), (436, .ifCond .ne 451), (439, .aload 3), (440, .iconst 0), (441, .laload), (442, .iload 6), (444, .i2l), (445, .lcmp), (446, .ifCond .eq 451), (449, .iconst 0), (450, .ireturn)], 451) := by rfl
theorem B_Lw_lawmain_451 : mj_bl j_Lw_lawmain 451 = some ([(451, .goto 3141)], 454) := by rfl
theorem B_Lw_lawmain_454 : mj_bl j_Lw_lawmain 454 = some ([(454, .aload 1), (455, .invokevirtual 656672), (458, .aload 2), (459, .invokevirtual 15598912), (462, .if_icmp .eq 3141), (465, .iconst 0), (466, .ireturn)], 467) := by rfl
theorem B_Lw_lawmain_467 : mj_bl j_Lw_lawmain 467 = some ([(467, .aload 1), (468, .aload 0), (469, .iload 4), (471, .iconst 1), (472, .iadd), (473, .iaload), (474, .aload 0), (475, .iload 4), (477, .iconst 2), (478, .iadd), (479, .iaload), (480, .aload 3), (481, .invokestatic 45356452), (484, .istore 5), (486, .aload 2), (487, .aload 0), (488, .iload 4), (490, .iconst 1), (491, .iadd), (492, .iaload), (493, .aload 0), (494, .iload 4), (496, .iconst 2), (497, .iadd), (498, .iaload), (499, .invokevirtual 18353474), (502, .istore 6), (504, .aload 2), (505, .invokevirtual 8914240), (508, .iload 5), (510, .if_icmp .eq 515), (513, .iconst 0), (514, .ireturn)], 515) := by rfl
theorem B_Lw_lawmain_515 : mj_bl j_Lw_lawmain 515 = some ([(515, .iload 5), (517, .ifCond .ne 532), (520, .aload 3), (521, .iconst 0), (522, .laload), (523, .iload 6), (525, .i2l), (526, .lcmp), (527, .ifCond .eq 532), (530, .iconst 0), (531, .ireturn)], 532) := by rfl
theorem B_Lw_lawmain_532 : mj_bl j_Lw_lawmain 532 = some ([(532, .goto 3141)], 535) := by rfl
theorem B_Lw_lawmain_535 : mj_bl j_Lw_lawmain 535 = some ([(535, .aload 1), (536, .aload 0), (537, .iload 4), (539, .iconst 1), (540, .iadd), (541, .iaload), (542, .aload 0), (543, .iload 4), (545, .iconst 2), (546, .iadd), (547, .iaload), (548, .aload 3), (549, .invokestatic 45487524), (552, .istore 5), (554, .aload 2), (555, .aload 0), (556, .iload 4), (558, .iconst 1), (559, .iadd), (560, .iaload), (561, .aload 0), (562, .iload 4), (564, .iconst 2), (565, .iadd), (566, .iaload), (567, .invokevirtual 19664194), (570, .istore 6), (572, .aload 2), (573, .invokevirtual 8914240), (576, .iload 5), (578, .if_icmp .eq 583), (581, .iconst 0), (582, .ireturn)], 583) := by rfl
theorem B_Lw_lawmain_583 : mj_bl j_Lw_lawmain 583 = some ([(583, .iload 5), (585, .ifCond .ne 600), (588, .aload 3), (589, .iconst 0), (590, .laload), (591, .iload 6), (593, .i2l), (594, .lcmp), (595, .ifCond .eq 600), (598, .iconst 0), (599, .ireturn)], 600) := by rfl
theorem B_Lw_lawmain_600 : mj_bl j_Lw_lawmain 600 = some ([(600, .goto 3141)], 603) := by rfl
theorem B_Lw_lawmain_603 : mj_bl j_Lw_lawmain 603 = some ([(603, .aload 1), (604, .aload 0), (605, .iload 4), (607, .iconst 1), (608, .iadd), (609, .iaload), (610, .aload 0), (611, .iload 4), (613, .iconst 2), (614, .iadd), (615, .iaload), (616, .aload 3), (617, .invokestatic 45618596), (620, .istore 5), (622, .aload 2), (623, .aload 0), (624, .iload 4), (626, .iconst 1), (627, .iadd), (628, .iaload), (629, .aload 0), (630, .iload 4), (632, .iconst 2), (633, .iadd), (634, .iaload), (635, .invokevirtual 19795266), (638, .istore 6), (640, .aload 2), (641, .invokevirtual 8914240), (644, .iload 5), (646, .if_icmp .eq 651), (649, .iconst 0), (650, .ireturn)], 651) := by rfl
theorem B_Lw_lawmain_651 : mj_bl j_Lw_lawmain 651 = some ([(651, .iload 5), (653, .ifCond .ne 668), (656, .aload 3), (657, .iconst 0), (658, .laload), (659, .iload 6), (661, .i2l), (662, .lcmp), (663, .ifCond .eq 668), (666, .iconst 0), (667, .ireturn)], 668) := by rfl
theorem B_Lw_lawmain_668 : mj_bl j_Lw_lawmain 668 = some ([(668, .goto 3141)], 671) := by rfl
theorem B_Lw_lawmain_671 : mj_bl j_Lw_lawmain 671 = some ([(671, .aload 1), (672, .aload 0), (673, .iload 4), (675, .iconst 1), (676, .iadd), (677, .iaload), (678, .aload 0), (679, .iload 4), (681, .iconst 2), (682, .iadd), (683, .iaload), (684, .aload 0), (685, .iload 4), (687, .iconst 3), (688, .iadd), (689, .iaload), (690, .aload 3), (691, .invokestatic 45750693), (694, .istore 5), (696, .aload 2), (697, .aload 0), (698, .iload 4), (700, .iconst 1), (701, .iadd), (702, .iaload), (703, .aload 0), (704, .iload 4), (706, .iconst 2), (707, .iadd), (708, .iaload), (709, .aload 0), (710, .iload 4), (712, .iconst 3), (713, .iadd), (714, .iaload), (715, .invokevirtual 19992899), (718, .istore 6), (720, .aload 2), (721, .invokevirtual 8914240), (724, .iload 5), (726, .if_icmp .eq 731), (729, .iconst 0), (730, .ireturn)], 731) := by rfl
theorem B_Lw_lawmain_731 : mj_bl j_Lw_lawmain 731 = some ([(731, .iload 5), (733, .ifCond .ne 755), (736, .aload 3), (737, .iconst 0), (738, .laload), (739, .iload 6), (741, .ifCond .eq 748), (744, .ldc2_w 1), (745, .goto 749)], 748) := by rfl
theorem B_Lw_lawmain_748 : mj_bl j_Lw_lawmain 748 = some ([(748, .ldc2_w 0)], 749) := by rfl
theorem B_Lw_lawmain_749 : mj_bl j_Lw_lawmain 749 = some ([(749, .lcmp), (750, .ifCond .eq 755), (753, .iconst 0), (754, .ireturn)], 755) := by rfl
theorem B_Lw_lawmain_755 : mj_bl j_Lw_lawmain 755 = some ([(755, .goto 3141)], 758) := by rfl
theorem B_Lw_lawmain_758 : mj_bl j_Lw_lawmain 758 = some ([(758, .aload 1), (759, .aload 0), (760, .iload 4), (762, .iconst 1), (763, .iadd), (764, .iaload), (765, .aload 3), (766, .invokestatic 45879715), (769, .istore 5), (771, .aload 2), (772, .aload 0), (773, .iload 4), (775, .iconst 1), (776, .iadd), (777, .iaload), (778, .invokevirtual 20121921), (781, .istore 6), (783, .aload 2), (784, .invokevirtual 8914240), (787, .iload 5), (789, .if_icmp .eq 794), (792, .iconst 0), (793, .ireturn)], 794) := by rfl
theorem B_Lw_lawmain_794 : mj_bl j_Lw_lawmain 794 = some ([(794, .iload 5), (796, .ifCond .ne 818), (799, .aload 3), (800, .iconst 0), (801, .laload), (802, .iload 6), (804, .ifCond .eq 811), (807, .ldc2_w 1), (808, .goto 812)], 811) := by rfl
theorem B_Lw_lawmain_811 : mj_bl j_Lw_lawmain 811 = some ([(811, .ldc2_w 0)], 812) := by rfl
theorem B_Lw_lawmain_812 : mj_bl j_Lw_lawmain 812 = some ([(812, .lcmp), (813, .ifCond .eq 818), (816, .iconst 0), (817, .ireturn)], 818) := by rfl
theorem B_Lw_lawmain_818 : mj_bl j_Lw_lawmain 818 = some ([(818, .goto 3141)], 821) := by rfl
theorem B_Lw_lawmain_821 : mj_bl j_Lw_lawmain 821 = some ([(821, .aload 1), (822, .aload 0), (823, .iload 4), (825, .iconst 1), (826, .iadd), (827, .iaload), (828, .aload 3), (829, .invokestatic 46010787), (832, .istore 5), (834, .aload 2), (835, .aload 0), (836, .iload 4), (838, .iconst 1), (839, .iadd), (840, .iaload), (841, .invokevirtual 20187457), (844, .istore 6), (846, .aload 2), (847, .invokevirtual 8914240), (850, .iload 5), (852, .if_icmp .eq 857), (855, .iconst 0), (856, .ireturn)], 857) := by rfl
theorem B_Lw_lawmain_857 : mj_bl j_Lw_lawmain 857 = some ([(857, .iload 5), (859, .ifCond .ne 874), (862, .aload 3), (863, .iconst 0), (864, .laload), (865, .iload 6), (867, .i2l), (868, .lcmp), (869, .ifCond .eq 874), (872, .iconst 0), (873, .ireturn)], 874) := by rfl
theorem B_Lw_lawmain_874 : mj_bl j_Lw_lawmain 874 = some ([(874, .goto 3141)], 877) := by rfl
theorem B_Lw_lawmain_877 : mj_bl j_Lw_lawmain 877 = some ([(877, .aload 1), (878, .aload 0), (879, .iload 4), (881, .iconst 1), (882, .iadd), (883, .iaload), (884, .aload 0), (885, .iload 4), (887, .iconst 2), (888, .iadd), (889, .iaload), (890, .ifCond .eq 897), (893, .iconst 1), (894, .goto 898)], 897) := by rfl
theorem B_Lw_lawmain_897 : mj_bl j_Lw_lawmain 897 = some ([(897, .iconst 0)], 898) := by rfl
theorem B_Lw_lawmain_898 : mj_bl j_Lw_lawmain 898 = some ([(898, .aload 3), (899, .invokestatic 46142884), (902, .istore 5), (904, .aload 2), (905, .aload 0), (906, .iload 4), (908, .iconst 1), (909, .iadd), (910, .iaload), (911, .aload 0), (912, .iload 4), (914, .iconst 2), (915, .iadd), (916, .iaload), (917, .ifCond .eq 924), (920, .iconst 1), (921, .goto 925)], 924) := by rfl
theorem B_Lw_lawmain_924 : mj_bl j_Lw_lawmain 924 = some ([(924, .iconst 0)], 925) := by rfl
theorem B_Lw_lawmain_925 : mj_bl j_Lw_lawmain 925 = some ([(925, .invokevirtual 20319554), (928, .istore 6), (930, .aload 2), (931, .invokevirtual 8914240), (934, .iload 5), (936, .if_icmp .eq 941), (939, .iconst 0), (940, .ireturn)], 941) := by rfl
theorem B_Lw_lawmain_941 : mj_bl j_Lw_lawmain 941 = some ([(941, .iload 5), (943, .ifCond .ne 958), (946, .aload 3), (947, .iconst 0), (948, .laload), (949, .iload 6), (951, .i2l), (952, .lcmp), (953, .ifCond .eq 958), (956, .iconst 0), (957, .ireturn)], 958) := by rfl
theorem B_Lw_lawmain_958 : mj_bl j_Lw_lawmain 958 = some ([(958, .goto 3141)], 961) := by rfl
theorem B_Lw_lawmain_961 : mj_bl j_Lw_lawmain 961 = some ([(961, .aload 1), (962, .aload 0), (963, .iload 4), (965, .iconst 1), (966, .iadd), (967, .iaload), (968, .aload 0), (969, .iload 4), (971, .iconst 2), (972, .iadd), (973, .iaload), (974, .aload 3), (975, .invokestatic 46273956), (978, .istore 5), (980, .aload 2), (981, .aload 0), (982, .iload 4), (984, .iconst 1), (985, .iadd), (986, .iaload), (987, .aload 0), (988, .iload 4), (990, .iconst 2), (991, .iadd), (992, .iaload), (993, .invokevirtual 20450626), (996, .istore 6), (998, .aload 2), (999, .invokevirtual 8914240), (1002, .iload 5), (1004, .if_icmp .eq 1009), (1007, .iconst 0), (1008, .ireturn)], 1009) := by rfl
theorem B_Lw_lawmain_1009 : mj_bl j_Lw_lawmain 1009 = some ([(1009, .iload 5), (1011, .ifCond .ne 1026), (1014, .aload 3), (1015, .iconst 0), (1016, .laload), (1017, .iload 6), (1019, .i2l), (1020, .lcmp), (1021, .ifCond .eq 1026), (1024, .iconst 0), (1025, .ireturn)], 1026) := by rfl
theorem B_Lw_lawmain_1026 : mj_bl j_Lw_lawmain 1026 = some ([(1026, .goto 3141)], 1029) := by rfl
theorem B_Lw_lawmain_1029 : mj_bl j_Lw_lawmain 1029 = some ([(1029, .aload 1), (1030, .aload 0), (1031, .iload 4), (1033, .iconst 1), (1034, .iadd), (1035, .iaload), (1036, .aload 3), (1037, .invokestatic 46404003), (1040, .istore 5), (1042, .aload 2), (1043, .aload 0), (1044, .iload 4), (1046, .iconst 1), (1047, .iadd), (1048, .iaload), (1049, .invokevirtual 20842817), (1052, .istore 6), (1054, .aload 2), (1055, .invokevirtual 8914240), (1058, .iload 5), (1060, .if_icmp .eq 1065), (1063, .iconst 0), (1064, .ireturn)], 1065) := by rfl
theorem B_Lw_lawmain_1065 : mj_bl j_Lw_lawmain 1065 = some ([(1065, .iload 5), (1067, .ifCond .ne 1082), (1070, .aload 3), (1071, .iconst 0), (1072, .laload), (1073, .iload 6), (1075, .i2l), (1076, .lcmp), (1077, .ifCond .eq 1082), (1080, .iconst 0), (1081, .ireturn)], 1082) := by rfl
theorem B_Lw_lawmain_1082 : mj_bl j_Lw_lawmain 1082 = some ([(1082, .goto 3141)], 1085) := by rfl
theorem B_Lw_lawmain_1085 : mj_bl j_Lw_lawmain 1085 = some ([(1085, .aload 1), (1086, .aload 0), (1087, .iload 4), (1089, .iconst 1), (1090, .iadd), (1091, .iaload), (1092, .aload 3), (1093, .invokestatic 46535075), (1096, .istore 5), (1098, .aload 2), (1099, .aload 0), (1100, .iload 4), (1102, .iconst 1), (1103, .iadd), (1104, .iaload), (1105, .invokevirtual 20976961), (1108, .istore 6), (1110, .aload 2), (1111, .invokevirtual 8914240), (1114, .iload 5), (1116, .if_icmp .eq 1121), (1119, .iconst 0), (1120, .ireturn)], 1121) := by rfl
theorem B_Lw_lawmain_1121 : mj_bl j_Lw_lawmain 1121 = some ([(1121, .iload 5), (1123, .ifCond .ne 1138), (1126, .aload 3), (1127, .iconst 0), (1128, .laload), (1129, .iload 6), (1131, .i2l), (1132, .lcmp), (1133, .ifCond .eq 1138), (1136, .iconst 0), (1137, .ireturn)], 1138) := by rfl
theorem B_Lw_lawmain_1138 : mj_bl j_Lw_lawmain 1138 = some ([(1138, .goto 3141)], 1141) := by rfl
theorem B_Lw_lawmain_1141 : mj_bl j_Lw_lawmain 1141 = some ([(1141, .aload 1), (1142, .aload 0), (1143, .iload 4), (1145, .iconst 1), (1146, .iadd), (1147, .iaload), (1148, .aload 0), (1149, .iload 4), (1151, .iconst 2), (1152, .iadd), (1153, .iaload), (1154, .aload 3), (1155, .invokestatic 46667172), (1158, .istore 5), (1160, .aload 2), (1161, .aload 0), (1162, .iload 4), (1164, .iconst 1), (1165, .iadd), (1166, .iaload), (1167, .aload 0), (1168, .iload 4), (1170, .iconst 2), (1171, .iadd), (1172, .iaload), (1173, .invokevirtual 21107010), (1176, .istore 6), (1178, .aload 2), (1179, .invokevirtual 8914240), (1182, .iload 5), (1184, .if_icmp .eq 1189), (1187, .iconst 0), (1188, .ireturn)], 1189) := by rfl
theorem B_Lw_lawmain_1189 : mj_bl j_Lw_lawmain 1189 = some ([(1189, .iload 5), (1191, .ifCond .ne 1206), (1194, .aload 3), (1195, .iconst 0), (1196, .laload), (1197, .iload 6), (1199, .i2l), (1200, .lcmp), (1201, .ifCond .eq 1206), (1204, .iconst 0), (1205, .ireturn)], 1206) := by rfl
theorem B_Lw_lawmain_1206 : mj_bl j_Lw_lawmain 1206 = some ([(1206, .goto 3141)], 1209) := by rfl
theorem B_Lw_lawmain_1209 : mj_bl j_Lw_lawmain 1209 = some ([(1209, .aload 1), (1210, .aload 0), (1211, .iload 4), (1213, .iconst 1), (1214, .iadd), (1215, .iaload), (1216, .aload 0), (1217, .iload 4), (1219, .iconst 2), (1220, .iadd), (1221, .iaload), (1222, .aload 3), (1223, .invokestatic 46798244), (1226, .istore 5), (1228, .aload 2), (1229, .aload 0), (1230, .iload 4), (1232, .iconst 1), (1233, .iadd), (1234, .iaload), (1235, .aload 0), (1236, .iload 4), (1238, .iconst 2), (1239, .iadd), (1240, .iaload), (1241, .invokevirtual 21238082), (1244, .istore 6), (1246, .aload 2), (1247, .invokevirtual 8914240), (1250, .iload 5), (1252, .if_icmp .eq 1257), (1255, .iconst 0), (1256, .ireturn)], 1257) := by rfl
theorem B_Lw_lawmain_1257 : mj_bl j_Lw_lawmain 1257 = some ([(1257, .iload 5), (1259, .ifCond .ne 1274), (1262, .aload 3), (1263, .iconst 0), (1264, .laload), (1265, .iload 6), (1267, .i2l), (1268, .lcmp), (1269, .ifCond .eq 1274), (1272, .iconst 0), (1273, .ireturn)], 1274) := by rfl
theorem B_Lw_lawmain_1274 : mj_bl j_Lw_lawmain 1274 = some ([(1274, .goto 3141)], 1277) := by rfl
theorem B_Lw_lawmain_1277 : mj_bl j_Lw_lawmain 1277 = some ([(1277, .aload 1), (1278, .aload 0), (1279, .iload 4), (1281, .iconst 1), (1282, .iadd), (1283, .iaload), (1284, .aload 0), (1285, .iload 4), (1287, .iconst 2), (1288, .iadd), (1289, .iaload), (1290, .aload 3), (1291, .invokestatic 46929316), (1294, .istore 5), (1296, .aload 2), (1297, .aload 0), (1298, .iload 4), (1300, .iconst 1), (1301, .iadd), (1302, .iaload), (1303, .aload 0), (1304, .iload 4), (1306, .iconst 2), (1307, .iadd), (1308, .iaload), (1309, .invokevirtual 21368130), (1312, .istore 6), (1314, .aload 2), (1315, .invokevirtual 8914240), (1318, .iload 5), (1320, .if_icmp .eq 1325), (1323, .iconst 0), (1324, .ireturn)], 1325) := by rfl
theorem B_Lw_lawmain_1325 : mj_bl j_Lw_lawmain 1325 = some ([(1325, .iload 5), (1327, .ifCond .ne 1342), (1330, .aload 3), (1331, .iconst 0), (1332, .laload), (1333, .iload 6), (1335, .i2l), (1336, .lcmp), (1337, .ifCond .eq 1342), (1340, .iconst 0), (1341, .ireturn)], 1342) := by rfl
theorem B_Lw_lawmain_1342 : mj_bl j_Lw_lawmain 1342 = some ([(1342, .goto 3141)], 1345) := by rfl
theorem B_Lw_lawmain_1345 : mj_bl j_Lw_lawmain 1345 = some ([(1345, .aload 1), (1346, .aload 0), (1347, .iload 4), (1349, .iconst 1), (1350, .iadd), (1351, .iaload), (1352, .invokestatic 47058338), (1355, .istore 5), (1357, .aload 2), (1358, .aload 0), (1359, .iload 4), (1361, .iconst 1), (1362, .iadd), (1363, .iaload), (1364, .invokevirtual 21499201), (1367, .aload 2), (1368, .invokevirtual 8914240), (1371, .iload 5), (1373, .if_icmp .eq 1378), (1376, .iconst 0), (1377, .ireturn)], 1378) := by rfl
theorem B_Lw_lawmain_1378 : mj_bl j_Lw_lawmain 1378 = some ([(1378, .goto 3141)], 1381) := by rfl
theorem B_Lw_lawmain_1381 : mj_bl j_Lw_lawmain 1381 = some ([(1381, .aload 1), (1382, .aload 0), (1383, .iload 4), (1385, .iconst 1), (1386, .iadd), (1387, .iaload), (1388, .aload 0), (1389, .iload 4), (1391, .iconst 2), (1392, .iadd), (1393, .iaload), (1394, .aload 3), (1395, .invokestatic 47191460), (1398, .istore 5), (1400, .aload 2), (1401, .aload 0), (1402, .iload 4), (1404, .iconst 1), (1405, .iadd), (1406, .iaload), (1407, .aload 0), (1408, .iload 4), (1410, .iconst 2), (1411, .iadd), (1412, .iaload), (1413, .invokevirtual 21630274), (1416, .istore 6), (1418, .aload 2), (1419, .invokevirtual 8914240), (1422, .iload 5), (1424, .if_icmp .eq 1429), (1427, .iconst 0), (1428, .ireturn)], 1429) := by rfl
theorem B_Lw_lawmain_1429 : mj_bl j_Lw_lawmain 1429 = some ([(1429, .iload 5), (1431, .ifCond .ne 1446), (1434, .aload 3), (1435, .iconst 0), (1436, .laload), (1437, .iload 6), (1439, .i2l), (1440, .lcmp), (1441, .ifCond .eq 1446), (1444, .iconst 0), (1445, .ireturn)], 1446) := by rfl
theorem B_Lw_lawmain_1446 : mj_bl j_Lw_lawmain 1446 = some ([(1446, .goto 3141)], 1449) := by rfl
theorem B_Lw_lawmain_1449 : mj_bl j_Lw_lawmain 1449 = some ([(1449, .aload 1), (1450, .aload 0), (1451, .iload 4), (1453, .iconst 1), (1454, .iadd), (1455, .iaload), (1456, .aload 0), (1457, .iload 4), (1459, .iconst 2), (1460, .iadd), (1461, .iaload), (1462, .aload 3), (1463, .invokestatic 47322532), (1466, .istore 5), (1468, .aload 2), (1469, .aload 0), (1470, .iload 4), (1472, .iconst 1), (1473, .iadd), (1474, .iaload), (1475, .aload 0), (1476, .iload 4), (1478, .iconst 2), (1479, .iadd), (1480, .iaload), (1481, .invokevirtual 21761346), (1484, .istore 6), (1486, .aload 2), (1487, .invokevirtual 8914240), (1490, .iload 5), (1492, .if_icmp .eq 1497), (1495, .iconst 0), (1496, .ireturn)], 1497) := by rfl
theorem B_Lw_lawmain_1497 : mj_bl j_Lw_lawmain 1497 = some ([(1497, .iload 5), (1499, .ifCond .ne 1514), (1502, .aload 3), (1503, .iconst 0), (1504, .laload), (1505, .iload 6), (1507, .i2l), (1508, .lcmp), (1509, .ifCond .eq 1514), (1512, .iconst 0), (1513, .ireturn)], 1514) := by rfl
theorem B_Lw_lawmain_1514 : mj_bl j_Lw_lawmain 1514 = some ([(1514, .goto 3141)], 1517) := by rfl
theorem B_Lw_lawmain_1517 : mj_bl j_Lw_lawmain 1517 = some ([(1517, .aload 1), (1518, .aload 0), (1519, .iload 4), (1521, .iconst 1), (1522, .iadd), (1523, .iaload), (1524, .aload 3), (1525, .invokestatic 47452579), (1528, .istore 5), (1530, .aload 2), (1531, .aload 0), (1532, .iload 4), (1534, .iconst 1), (1535, .iadd), (1536, .iaload), (1537, .invokevirtual 21892417), (1540, .istore 6), (1542, .aload 2), (1543, .invokevirtual 8914240), (1546, .iload 5), (1548, .if_icmp .eq 1553), (1551, .iconst 0), (1552, .ireturn)], 1553) := by rfl
theorem B_Lw_lawmain_1553 : mj_bl j_Lw_lawmain 1553 = some ([(1553, .iload 5), (1555, .ifCond .ne 1570), (1558, .aload 3), (1559, .iconst 0), (1560, .laload), (1561, .iload 6), (1563, .i2l), (1564, .lcmp), (1565, .ifCond .eq 1570), (1568, .iconst 0), (1569, .ireturn)], 1570) := by rfl
theorem B_Lw_lawmain_1570 : mj_bl j_Lw_lawmain 1570 = some ([(1570, .goto 3141)], 1573) := by rfl
theorem B_Lw_lawmain_1573 : mj_bl j_Lw_lawmain 1573 = some ([(1573, .aload 1), (1574, .aload 0), (1575, .iload 4), (1577, .iconst 1), (1578, .iadd), (1579, .iaload), (1580, .aload 3), (1581, .invokestatic 47583651), (1584, .istore 5), (1586, .aload 2), (1587, .aload 0), (1588, .iload 4), (1590, .iconst 1), (1591, .iadd), (1592, .iaload), (1593, .invokevirtual 22022465), (1596, .istore 6), (1598, .aload 2), (1599, .invokevirtual 8914240), (1602, .iload 5), (1604, .if_icmp .eq 1609), (1607, .iconst 0), (1608, .ireturn)], 1609) := by rfl
theorem B_Lw_lawmain_1609 : mj_bl j_Lw_lawmain 1609 = some ([(1609, .iload 5), (1611, .ifCond .ne 1626), (1614, .aload 3), (1615, .iconst 0), (1616, .laload), (1617, .iload 6), (1619, .i2l), (1620, .lcmp), (1621, .ifCond .eq 1626), (1624, .iconst 0), (1625, .ireturn)], 1626) := by rfl
theorem B_Lw_lawmain_1626 : mj_bl j_Lw_lawmain 1626 = some ([(1626, .goto 3141)], 1629) := by rfl
theorem B_Lw_lawmain_1629 : mj_bl j_Lw_lawmain 1629 = some ([(1629, .aload 1), (1630, .aload 0), (1631, .iload 4), (1633, .iconst 1), (1634, .iadd), (1635, .iaload), (1636, .aload 0), (1637, .iload 4), (1639, .iconst 2), (1640, .iadd), (1641, .iaload), (1642, .aload 3), (1643, .invokestatic 47715748), (1646, .istore 5), (1648, .aload 2), (1649, .aload 0), (1650, .iload 4), (1652, .iconst 1), (1653, .iadd), (1654, .iaload), (1655, .aload 0), (1656, .iload 4), (1658, .iconst 2), (1659, .iadd), (1660, .iaload), (1661, .invokevirtual 22416706), (1664, .istore 6), (1666, .aload 2), (1667, .invokevirtual 8914240), (1670, .iload 5), (1672, .if_icmp .eq 1677), (1675, .iconst 0), (1676, .ireturn)], 1677) := by rfl
theorem B_Lw_lawmain_1677 : mj_bl j_Lw_lawmain 1677 = some ([(1677, .iload 5), (1679, .ifCond .ne 1694), (1682, .aload 3), (1683, .iconst 0), (1684, .laload), (1685, .iload 6), (1687, .i2l), (1688, .lcmp), (1689, .ifCond .eq 1694), (1692, .iconst 0), (1693, .ireturn)], 1694) := by rfl
theorem B_Lw_lawmain_1694 : mj_bl j_Lw_lawmain 1694 = some ([(1694, .goto 3141)], 1697) := by rfl
theorem B_Lw_lawmain_1697 : mj_bl j_Lw_lawmain 1697 = some ([(1697, .aload 1), (1698, .aload 0), (1699, .iload 4), (1701, .iconst 1), (1702, .iadd), (1703, .iaload), (1704, .aload 0), (1705, .iload 4), (1707, .iconst 2), (1708, .iadd), (1709, .iaload), (1710, .aload 3), (1711, .invokestatic 47846820), (1714, .istore 5), (1716, .aload 2), (1717, .aload 0), (1718, .iload 4), (1720, .iconst 1), (1721, .iadd), (1722, .iaload), (1723, .aload 0), (1724, .iload 4), (1726, .iconst 2), (1727, .iadd), (1728, .iaload), (1729, .invokevirtual 22547778), (1732, .istore 6), (1734, .aload 2), (1735, .invokevirtual 8914240), (1738, .iload 5), (1740, .if_icmp .eq 1745), (1743, .iconst 0), (1744, .ireturn)], 1745) := by rfl
theorem B_Lw_lawmain_1745 : mj_bl j_Lw_lawmain 1745 = some ([(1745, .iload 5), (1747, .ifCond .ne 1762), (1750, .aload 3), (1751, .iconst 0), (1752, .laload), (1753, .iload 6), (1755, .i2l), (1756, .lcmp), (1757, .ifCond .eq 1762), (1760, .iconst 0), (1761, .ireturn)], 1762) := by rfl
theorem B_Lw_lawmain_1762 : mj_bl j_Lw_lawmain 1762 = some ([(1762, .goto 3141)], 1765) := by rfl
theorem B_Lw_lawmain_1765 : mj_bl j_Lw_lawmain 1765 = some ([(1765, .aload 1), (1766, .invokevirtual 3409184), (1769, .aload 2), (1770, .invokevirtual 22938944), (1773, .if_icmp .eq 3141), (1776, .iconst 0), (1777, .ireturn)], 1778) := by rfl
theorem B_Lw_lawmain_1778 : mj_bl j_Lw_lawmain 1778 = some ([(1778, .aload 1), (1779, .invokevirtual 3540256), (1782, .aload 2), (1783, .invokevirtual 23070016), (1786, .if_icmp .eq 3141), (1789, .iconst 0), (1790, .ireturn)], 1791) := by rfl
theorem B_Lw_lawmain_1791 : mj_bl j_Lw_lawmain 1791 = some ([(1791, .aload 1), (1792, .aload 0), (1793, .iload 4), (1795, .iconst 1), (1796, .iadd), (1797, .iaload), (1798, .aload 3), (1799, .invokestatic 47976867), (1802, .istore 5), (1804, .aload 2), (1805, .aload 0), (1806, .iload 4), (1808, .iconst 1), (1809, .iadd), (1810, .iaload), (1811, .invokevirtual 23596353), (1814, .istore 6), (1816, .aload 2), (1817, .invokevirtual 8914240), (1820, .iload 5), (1822, .if_icmp .eq 1827), (1825, .iconst 0), (1826, .ireturn)], 1827) := by rfl
theorem B_Lw_lawmain_1827 : mj_bl j_Lw_lawmain 1827 = some ([(1827, .iload 5), (1829, .ifCond .ne 1844), (1832, .aload 3), (1833, .iconst 0), (1834, .laload), (1835, .iload 6), (1837, .i2l), (1838, .lcmp), (1839, .ifCond .eq 1844), (1842, .iconst 0), (1843, .ireturn)], 1844) := by rfl
theorem B_Lw_lawmain_1844 : mj_bl j_Lw_lawmain 1844 = some ([(1844, .goto 3141)], 1847) := by rfl
theorem B_Lw_lawmain_1847 : mj_bl j_Lw_lawmain 1847 = some ([(1847, .aload 1), (1848, .aload 0), (1849, .iload 4), (1851, .iconst 1), (1852, .iadd), (1853, .iaload), (1854, .aload 0), (1855, .iload 4), (1857, .iconst 2), (1858, .iadd), (1859, .iaload), (1860, .aload 3), (1861, .invokestatic 48108964), (1864, .istore 5), (1866, .aload 2), (1867, .aload 0), (1868, .iload 4), (1870, .iconst 1), (1871, .iadd), (1872, .iaload), (1873, .aload 0), (1874, .iload 4), (1876, .iconst 2), (1877, .iadd), (1878, .iaload), (1879, .invokevirtual 23728450), (1882, .istore 6), (1884, .aload 2), (1885, .invokevirtual 8914240), (1888, .iload 5), (1890, .if_icmp .eq 1895), (1893, .iconst 0), (1894, .ireturn)], 1895) := by rfl
theorem B_Lw_lawmain_1895 : mj_bl j_Lw_lawmain 1895 = some ([(1895, .iload 5), (1897, .ifCond .ne 1912), (1900, .aload 3), (1901, .iconst 0), (1902, .laload), (1903, .iload 6), (1905, .i2l), (1906, .lcmp), (1907, .ifCond .eq 1912), (1910, .iconst 0), (1911, .ireturn)], 1912) := by rfl
theorem B_Lw_lawmain_1912 : mj_bl j_Lw_lawmain 1912 = some ([(1912, .goto 3141)], 1915) := by rfl
theorem B_Lw_lawmain_1915 : mj_bl j_Lw_lawmain 1915 = some ([(1915, .aload 1), (1916, .aload 0), (1917, .iload 4), (1919, .iconst 1), (1920, .iadd), (1921, .iaload), (1922, .ifCond .eq 1929), (1925, .iconst 1), (1926, .goto 1930)], 1929) := by rfl
theorem B_Lw_lawmain_1929 : mj_bl j_Lw_lawmain 1929 = some ([(1929, .iconst 0)], 1930) := by rfl
theorem B_Lw_lawmain_1930 : mj_bl j_Lw_lawmain 1930 = some ([(1930, .aload 3), (1931, .invokestatic 48239011), (1934, .istore 5), (1936, .aload 2), (1937, .aload 0), (1938, .iload 4), (1940, .iconst 1), (1941, .iadd), (1942, .iaload), (1943, .ifCond .eq 1950), (1946, .iconst 1), (1947, .goto 1951)], 1950) := by rfl
theorem B_Lw_lawmain_1950 : mj_bl j_Lw_lawmain 1950 = some ([(1950, .iconst 0)], 1951) := by rfl
theorem B_Lw_lawmain_1951 : mj_bl j_Lw_lawmain 1951 = some ([(1951, .invokevirtual 24382785), (1954, .istore 6), (1956, .aload 2), (1957, .invokevirtual 8914240), (1960, .iload 5), (1962, .if_icmp .eq 1967), (1965, .iconst 0), (1966, .ireturn)], 1967) := by rfl
theorem B_Lw_lawmain_1967 : mj_bl j_Lw_lawmain 1967 = some ([(1967, .iload 5), (1969, .ifCond .ne 1984), (1972, .aload 3), (1973, .iconst 0), (1974, .laload), (1975, .iload 6), (1977, .i2l), (1978, .lcmp), (1979, .ifCond .eq 1984), (1982, .iconst 0), (1983, .ireturn)], 1984) := by rfl
theorem B_Lw_lawmain_1984 : mj_bl j_Lw_lawmain 1984 = some ([(1984, .goto 3141)], 1987) := by rfl
theorem B_Lw_lawmain_1987 : mj_bl j_Lw_lawmain 1987 = some ([(1987, .aload 1), (1988, .aload 3), (1989, .invokestatic 48369058), (1992, .istore 5), (1994, .aload 2), (1995, .invokevirtual 24517952), (1998, .istore 6), (2000, .aload 2), (2001, .invokevirtual 8914240), (2004, .iload 5), (2006, .if_icmp .eq 2011), (2009, .iconst 0), (2010, .ireturn)], 2011) := by rfl
theorem B_Lw_lawmain_2011 : mj_bl j_Lw_lawmain 2011 = some ([(2011, .iload 5), (2013, .ifCond .ne 2028), (2016, .aload 3), (2017, .iconst 0), (2018, .laload), (2019, .iload 6), (2021, .i2l), (2022, .lcmp), (2023, .ifCond .eq 2028), (2026, .iconst 0), (2027, .ireturn)], 2028) := by rfl
theorem B_Lw_lawmain_2028 : mj_bl j_Lw_lawmain 2028 = some ([(2028, .goto 3141)], 2031) := by rfl
theorem B_Lw_lawmain_2031 : mj_bl j_Lw_lawmain 2031 = some ([(2031, .aload 1), (2032, .aload 0), (2033, .iload 4), (2035, .iconst 1), (2036, .iadd), (2037, .iaload), (2038, .aload 3), (2039, .invokestatic 48501155), (2042, .istore 5), (2044, .aload 2), (2045, .aload 0), (2046, .iload 4), (2048, .iconst 1), (2049, .iadd), (2050, .iaload), (2051, .invokevirtual 24911169), (2054, .istore 6), (2056, .aload 2), (2057, .invokevirtual 8914240), (2060, .iload 5), (2062, .if_icmp .eq 2067), (2065, .iconst 0), (2066, .ireturn)], 2067) := by rfl
theorem B_Lw_lawmain_2067 : mj_bl j_Lw_lawmain 2067 = some ([(2067, .iload 5), (2069, .ifCond .ne 2084), (2072, .aload 3), (2073, .iconst 0), (2074, .laload), (2075, .iload 6), (2077, .i2l), (2078, .lcmp), (2079, .ifCond .eq 2084), (2082, .iconst 0), (2083, .ireturn)], 2084) := by rfl
theorem B_Lw_lawmain_2084 : mj_bl j_Lw_lawmain 2084 = some ([(2084, .goto 3141)], 2087) := by rfl
theorem B_Lw_lawmain_2087 : mj_bl j_Lw_lawmain 2087 = some ([(2087, .aload 1), (2088, .aload 0), (2089, .iload 4), (2091, .iconst 1), (2092, .iadd), (2093, .iaload), (2094, .aload 3), (2095, .invokestatic 48632227), (2098, .istore 5), (2100, .aload 2), (2101, .aload 0), (2102, .iload 4), (2104, .iconst 1), (2105, .iadd), (2106, .iaload), (2107, .invokevirtual 25435457), (2110, .istore 6), (2112, .aload 2), (2113, .invokevirtual 8914240), (2116, .iload 5), (2118, .if_icmp .eq 2123), (2121, .iconst 0), (2122, .ireturn)], 2123) := by rfl
theorem B_Lw_lawmain_2123 : mj_bl j_Lw_lawmain 2123 = some ([(2123, .iload 5), (2125, .ifCond .ne 2140), (2128, .aload 3), (2129, .iconst 0), (2130, .laload), (2131, .iload 6), (2133, .i2l), (2134, .lcmp), (2135, .ifCond .eq 2140), (2138, .iconst 0), (2139, .ireturn)], 2140) := by rfl
theorem B_Lw_lawmain_2140 : mj_bl j_Lw_lawmain 2140 = some ([(2140, .goto 3141)], 2143) := by rfl
theorem B_Lw_lawmain_2143 : mj_bl j_Lw_lawmain 2143 = some ([(2143, .aload 1), (2144, .aload 0), (2145, .iload 4), (2147, .iconst 1), (2148, .iadd), (2149, .iaload), (2150, .aload 0), (2151, .iload 4), (2153, .iconst 2), (2154, .iadd), (2155, .iaload), (2156, .aload 3), (2157, .invokestatic 48764324), (2160, .istore 5), (2162, .aload 2), (2163, .aload 0), (2164, .iload 4), (2166, .iconst 1), (2167, .iadd), (2168, .iaload), (2169, .aload 0), (2170, .iload 4), (2172, .iconst 2), (2173, .iadd), (2174, .iaload), (2175, .invokevirtual 25562434), (2178, .istore 6), (2180, .aload 2), (2181, .invokevirtual 8914240), (2184, .iload 5), (2186, .if_icmp .eq 2191), (2189, .iconst 0), (2190, .ireturn)], 2191) := by rfl
theorem B_Lw_lawmain_2191 : mj_bl j_Lw_lawmain 2191 = some ([(2191, .iload 5), (2193, .ifCond .ne 2208), (2196, .aload 3), (2197, .iconst 0), (2198, .laload), (2199, .iload 6), (2201, .i2l), (2202, .lcmp), (2203, .ifCond .eq 2208), (2206, .iconst 0), (2207, .ireturn)], 2208) := by rfl
theorem B_Lw_lawmain_2208 : mj_bl j_Lw_lawmain 2208 = some ([(2208, .goto 3141)], 2211) := by rfl
theorem B_Lw_lawmain_2211 : mj_bl j_Lw_lawmain 2211 = some ([(2211, .aload 1), (2212, .aload 0), (2213, .iload 4), (2215, .iconst 1), (2216, .iadd), (2217, .iaload), (2218, .aload 0), (2219, .iload 4), (2221, .iconst 2), (2222, .iadd), (2223, .iaload), (2224, .aload 3), (2225, .invokestatic 48895396), (2228, .istore 5), (2230, .aload 2), (2231, .aload 0), (2232, .iload 4), (2234, .iconst 1), (2235, .iadd), (2236, .iaload), (2237, .aload 0), (2238, .iload 4), (2240, .iconst 2), (2241, .iadd), (2242, .iaload), (2243, .invokevirtual 25696578), (2246, .istore 6), (2248, .aload 2), (2249, .invokevirtual 8914240), (2252, .iload 5), (2254, .if_icmp .eq 2259), (2257, .iconst 0), (2258, .ireturn)], 2259) := by rfl
theorem B_Lw_lawmain_2259 : mj_bl j_Lw_lawmain 2259 = some ([(2259, .iload 5), (2261, .ifCond .ne 2276), (2264, .aload 3), (2265, .iconst 0), (2266, .laload), (2267, .iload 6), (2269, .i2l), (2270, .lcmp), (2271, .ifCond .eq 2276), (2274, .iconst 0), (2275, .ireturn)], 2276) := by rfl
theorem B_Lw_lawmain_2276 : mj_bl j_Lw_lawmain 2276 = some ([(2276, .goto 3141)], 2279) := by rfl
theorem B_Lw_lawmain_2279 : mj_bl j_Lw_lawmain 2279 = some ([(2279, .aload 1), (2280, .aload 0), (2281, .iload 4), (2283, .iconst 1), (2284, .iadd), (2285, .iaload), (2286, .aload 3), (2287, .invokestatic 49025443), (2290, .istore 5), (2292, .aload 2), (2293, .aload 0), (2294, .iload 4), (2296, .iconst 1), (2297, .iadd), (2298, .iaload), (2299, .invokevirtual 25956673), (2302, .istore 6), (2304, .aload 2), (2305, .invokevirtual 8914240), (2308, .iload 5), (2310, .if_icmp .eq 2315), (2313, .iconst 0), (2314, .ireturn)], 2315) := by rfl
theorem B_Lw_lawmain_2315 : mj_bl j_Lw_lawmain 2315 = some ([(2315, .iload 5), (2317, .ifCond .ne 2332), (2320, .aload 3), (2321, .iconst 0), (2322, .laload), (2323, .iload 6), (2325, .i2l), (2326, .lcmp), (2327, .ifCond .eq 2332), (2330, .iconst 0), (2331, .ireturn)], 2332) := by rfl
theorem B_Lw_lawmain_2332 : mj_bl j_Lw_lawmain 2332 = some ([(2332, .goto 3141)], 2335) := by rfl
theorem B_Lw_lawmain_2335 : mj_bl j_Lw_lawmain 2335 = some ([(2335, .aload 1), (2336, .aload 0), (2337, .iload 4), (2339, .iconst 1), (2340, .iadd), (2341, .iaload), (2342, .aload 3), (2343, .invokestatic 49156515), (2346, .istore 5), (2348, .aload 2), (2349, .aload 0), (2350, .iload 4), (2352, .iconst 1), (2353, .iadd), (2354, .iaload), (2355, .invokevirtual 26351937), (2358, .istore 6), (2360, .aload 2), (2361, .invokevirtual 8914240), (2364, .iload 5), (2366, .if_icmp .eq 2371), (2369, .iconst 0), (2370, .ireturn)], 2371) := by rfl
theorem B_Lw_lawmain_2371 : mj_bl j_Lw_lawmain 2371 = some ([(2371, .iload 5), (2373, .ifCond .ne 2388), (2376, .aload 3), (2377, .iconst 0), (2378, .laload), (2379, .iload 6), (2381, .i2l), (2382, .lcmp), (2383, .ifCond .eq 2388), (2386, .iconst 0), (2387, .ireturn)], 2388) := by rfl
theorem B_Lw_lawmain_2388 : mj_bl j_Lw_lawmain 2388 = some ([(2388, .goto 3141)], 2391) := by rfl
theorem B_Lw_lawmain_2391 : mj_bl j_Lw_lawmain 2391 = some ([(2391, .aload 1), (2392, .aload 0), (2393, .iload 4), (2395, .iconst 1), (2396, .iadd), (2397, .iaload), (2398, .aload 0), (2399, .iload 4), (2401, .iconst 2), (2402, .iadd), (2403, .iaload), (2404, .aload 3), (2405, .invokestatic 49288612), (2408, .istore 5), (2410, .aload 2), (2411, .aload 0), (2412, .iload 4), (2414, .iconst 1), (2415, .iadd), (2416, .iaload), (2417, .aload 0), (2418, .iload 4), (2420, .iconst 2), (2421, .iadd), (2422, .iaload), (2423, .invokevirtual 26488130), (2426, .istore 6), (2428, .aload 2), (2429, .invokevirtual 8914240), (2432, .iload 5), (2434, .if_icmp .eq 2439), (2437, .iconst 0), (2438, .ireturn)], 2439) := by rfl
theorem B_Lw_lawmain_2439 : mj_bl j_Lw_lawmain 2439 = some ([(2439, .iload 5), (2441, .ifCond .ne 2456), (2444, .aload 3), (2445, .iconst 0), (2446, .laload), (2447, .iload 6), (2449, .i2l), (2450, .lcmp), (2451, .ifCond .eq 2456), (2454, .iconst 0), (2455, .ireturn)], 2456) := by rfl
theorem B_Lw_lawmain_2456 : mj_bl j_Lw_lawmain 2456 = some ([(2456, .goto 3141)], 2459) := by rfl
theorem B_Lw_lawmain_2459 : mj_bl j_Lw_lawmain 2459 = some ([(2459, .aload 1), (2460, .aload 0), (2461, .iload 4), (2463, .iconst 1), (2464, .iadd), (2465, .iaload), (2466, .aload 3), (2467, .invokestatic 49418659), (2470, .istore 5), (2472, .aload 2), (2473, .aload 0), (2474, .iload 4), (2476, .iconst 1), (2477, .iadd), (2478, .iaload), (2479, .invokevirtual 26744129), (2482, .istore 6), (2484, .aload 2), (2485, .invokevirtual 8914240), (2488, .iload 5), (2490, .if_icmp .eq 2495), (2493, .iconst 0), (2494, .ireturn)], 2495) := by rfl
theorem B_Lw_lawmain_2495 : mj_bl j_Lw_lawmain 2495 = some ([(2495, .iload 5), (2497, .ifCond .ne 2512), (2500, .aload 3), (2501, .iconst 0), (2502, .laload), (2503, .iload 6), (2505, .i2l), (2506, .lcmp), (2507, .ifCond .eq 2512), (2510, .iconst 0), (2511, .ireturn)], 2512) := by rfl
theorem B_Lw_lawmain_2512 : mj_bl j_Lw_lawmain 2512 = some ([(2512, .goto 3141)], 2515) := by rfl
theorem B_Lw_lawmain_2515 : mj_bl j_Lw_lawmain 2515 = some ([(2515, .aload 1), (2516, .aload 0), (2517, .iload 4), (2519, .iconst 1), (2520, .iadd), (2521, .iaload), (2522, .ifCond .eq 2529), (2525, .iconst 1), (2526, .goto 2530)], 2529) := by rfl
theorem B_Lw_lawmain_2529 : mj_bl j_Lw_lawmain 2529 = some ([(2529, .iconst 0)], 2530) := by rfl
theorem B_Lw_lawmain_2530 : mj_bl j_Lw_lawmain 2530 = some ([(2530, .invokevirtual 5245217), (2533, .aload 2), (2534, .aload 0), (2535, .iload 4), (2537, .iconst 1), (2538, .iadd), (2539, .iaload), (2540, .ifCond .eq 2547), (2543, .iconst 1), (2544, .goto 2548)], 2547) := by rfl
theorem B_Lw_lawmain_2547 : mj_bl j_Lw_lawmain 2547 = some ([(2547, .iconst 0)], 2548) := by rfl
theorem B_Lw_lawmain_2548 : mj_bl j_Lw_lawmain 2548 = some ([(2548, .invokevirtual 26874177), (2551, .if_icmp .eq 3141), (2554, .iconst 0), (2555, .ireturn)], 2556) := by rfl
theorem B_Lw_lawmain_2556 : mj_bl j_Lw_lawmain 2556 = some ([(2556, .aload 1), (2557, .invokevirtual 5375264), (2560, .aload 2), (2561, .invokevirtual 27005248), (2564, .if_icmp .eq 3141), (2567, .iconst 0), (2568, .ireturn)], 2569) := by rfl
theorem B_Lw_lawmain_2569 : mj_bl j_Lw_lawmain 2569 = some ([(2569, .aload 1), (2570, .aload 0), (2571, .iload 4), (2573, .iconst 1), (2574, .iadd), (2575, .iaload), (2576, .aload 3), (2577, .invokestatic 49549731), (2580, .istore 5), (2582, .aload 2), (2583, .aload 0), (2584, .iload 4), (2586, .iconst 1), (2587, .iadd), (2588, .iaload), (2589, .invokevirtual 27136321), (2592, .istore 6), (2594, .aload 2), (2595, .invokevirtual 8914240), (2598, .iload 5), (2600, .if_icmp .eq 2605), (2603, .iconst 0), (2604, .ireturn)], 2605) := by rfl
theorem B_Lw_lawmain_2605 : mj_bl j_Lw_lawmain 2605 = some ([(2605, .iload 5), (2607, .ifCond .ne 2622), (2610, .aload 3), (2611, .iconst 0), (2612, .laload), (2613, .iload 6), (2615, .i2l), (2616, .lcmp), (2617, .ifCond .eq 2622), (2620, .iconst 0), (2621, .ireturn)], 2622) := by rfl
theorem B_Lw_lawmain_2622 : mj_bl j_Lw_lawmain 2622 = some ([(2622, .goto 3141)], 2625) := by rfl
theorem B_Lw_lawmain_2625 : mj_bl j_Lw_lawmain 2625 = some ([(2625, .aload 1), (2626, .invokevirtual 5639456), (2629, .aload 2), (2630, .invokevirtual 27266368), (2633, .if_icmp .eq 3141), (2636, .iconst 0), (2637, .ireturn)], 2638) := by rfl
theorem B_Lw_lawmain_2638 : mj_bl j_Lw_lawmain 2638 = some ([(2638, .aload 1), (2639, .aload 0), (2640, .iload 4), (2642, .iconst 1), (2643, .iadd), (2644, .iaload), (2645, .aload 0), (2646, .iload 4), (2648, .iconst 2), (2649, .iadd), (2650, .iaload), (2651, .aload 0), (2652, .iload 4), (2654, .iconst 3), (2655, .iadd), (2656, .iaload), (2657, .ifCond .eq 2664), (2660, .iconst 1), (2661, .goto 2665)], 2664) := by rfl
theorem B_Lw_lawmain_2664 : mj_bl j_Lw_lawmain 2664 = some ([(2664, .iconst 0)], 2665) := by rfl
theorem B_Lw_lawmain_2665 : mj_bl j_Lw_lawmain 2665 = some ([(2665, .aload 3), (2666, .invokestatic 49682853), (2669, .istore 5), (2671, .aload 2), (2672, .aload 0), (2673, .iload 4), (2675, .iconst 1), (2676, .iadd), (2677, .iaload), (2678, .aload 0), (2679, .iload 4), (2681, .iconst 2), (2682, .iadd), (2683, .iaload), (2684, .aload 0), (2685, .iload 4), (2687, .iconst 3), (2688, .iadd), (2689, .iaload), (2690, .ifCond .eq 2697), (2693, .iconst 1), (2694, .goto 2698)], 2697) := by rfl
theorem B_Lw_lawmain_2697 : mj_bl j_Lw_lawmain 2697 = some ([(2697, .iconst 0)], 2698) := by rfl
theorem B_Lw_lawmain_2698 : mj_bl j_Lw_lawmain 2698 = some ([(2698, .invokevirtual 27400515), (2701, .istore 6), (2703, .aload 2), (2704, .invokevirtual 8914240), (2707, .iload 5), (2709, .if_icmp .eq 2714), (2712, .iconst 0), (2713, .ireturn)], 2714) := by rfl
theorem B_Lw_lawmain_2714 : mj_bl j_Lw_lawmain 2714 = some ([(2714, .iload 5), (2716, .ifCond .ne 2731), (2719, .aload 3), (2720, .iconst 0), (2721, .laload), (2722, .iload 6), (2724, .i2l), (2725, .lcmp), (2726, .ifCond .eq 2731), (2729, .iconst 0), (2730, .ireturn)], 2731) := by rfl
theorem B_Lw_lawmain_2731 : mj_bl j_Lw_lawmain 2731 = some ([(2731, .goto 3141)], 2734) := by rfl
theorem B_Lw_lawmain_2734 : mj_bl j_Lw_lawmain 2734 = some ([(2734, .aload 1), (2735, .aload 0), (2736, .iload 4), (2738, .iconst 1), (2739, .iadd), (2740, .iaload), (2741, .aload 0), (2742, .iload 4), (2744, .iconst 2), (2745, .iadd), (2746, .iaload), (2747, .ifCond .eq 2754), (2750, .iconst 1), (2751, .goto 2755)], 2754) := by rfl
theorem B_Lw_lawmain_2754 : mj_bl j_Lw_lawmain 2754 = some ([(2754, .iconst 0)], 2755) := by rfl
theorem B_Lw_lawmain_2755 : mj_bl j_Lw_lawmain 2755 = some ([(2755, .aload 3), (2756, .invokestatic 49812900), (2759, .istore 5), (2761, .aload 2), (2762, .aload 0), (2763, .iload 4), (2765, .iconst 1), (2766, .iadd), (2767, .iaload), (2768, .aload 0), (2769, .iload 4), (2771, .iconst 2), (2772, .iadd), (2773, .iaload), (2774, .ifCond .eq 2781), (2777, .iconst 1), (2778, .goto 2782)], 2781) := by rfl
theorem B_Lw_lawmain_2781 : mj_bl j_Lw_lawmain 2781 = some ([(2781, .iconst 0)], 2782) := by rfl
theorem B_Lw_lawmain_2782 : mj_bl j_Lw_lawmain 2782 = some ([(2782, .invokevirtual 27530562), (2785, .istore 6), (2787, .aload 2), (2788, .invokevirtual 8914240), (2791, .iload 5), (2793, .if_icmp .eq 2798), (2796, .iconst 0), (2797, .ireturn)], 2798) := by rfl
theorem B_Lw_lawmain_2798 : mj_bl j_Lw_lawmain 2798 = some ([(2798, .iload 5), (2800, .ifCond .ne 2815), (2803, .aload 3), (2804, .iconst 0), (2805, .laload), (2806, .iload 6), (2808, .i2l), (2809, .lcmp), (2810, .ifCond .eq 2815), (2813, .iconst 0), (2814, .ireturn)], 2815) := by rfl
theorem B_Lw_lawmain_2815 : mj_bl j_Lw_lawmain 2815 = some ([(2815, .goto 3141)], 2818) := by rfl
theorem B_Lw_lawmain_2818 : mj_bl j_Lw_lawmain 2818 = some ([(2818, .aload 1), (2819, .aload 0), (2820, .iload 4), (2822, .iconst 1), (2823, .iadd), (2824, .iaload), (2825, .aload 0), (2826, .iload 4), (2828, .iconst 2), (2829, .iadd), (2830, .iaload), (2831, .ifCond .eq 2838), (2834, .iconst 1), (2835, .goto 2839)], 2838) := by rfl
theorem B_Lw_lawmain_2838 : mj_bl j_Lw_lawmain 2838 = some ([(2838, .iconst 0)], 2839) := by rfl
theorem B_Lw_lawmain_2839 : mj_bl j_Lw_lawmain 2839 = some ([(2839, .aload 3), (2840, .invokestatic 49943972), (2843, .istore 5), (2845, .aload 2), (2846, .aload 0), (2847, .iload 4), (2849, .iconst 1), (2850, .iadd), (2851, .iaload), (2852, .aload 0), (2853, .iload 4), (2855, .iconst 2), (2856, .iadd), (2857, .iaload), (2858, .ifCond .eq 2865), (2861, .iconst 1), (2862, .goto 2866)], 2865) := by rfl
theorem B_Lw_lawmain_2865 : mj_bl j_Lw_lawmain 2865 = some ([(2865, .iconst 0)], 2866) := by rfl
theorem B_Lw_lawmain_2866 : mj_bl j_Lw_lawmain 2866 = some ([(2866, .invokevirtual 27663682), (2869, .istore 6), (2871, .aload 2), (2872, .invokevirtual 8914240), (2875, .iload 5), (2877, .if_icmp .eq 2882), (2880, .iconst 0), (2881, .ireturn)], 2882) := by rfl
theorem B_Lw_lawmain_2882 : mj_bl j_Lw_lawmain 2882 = some ([(2882, .iload 5), (2884, .ifCond .ne 2899), (2887, .aload 3), (2888, .iconst 0), (2889, .laload), (2890, .iload 6), (2892, .i2l), (2893, .lcmp), (2894, .ifCond .eq 2899), (2897, .iconst 0), (2898, .ireturn)], 2899) := by rfl
theorem B_Lw_lawmain_2899 : mj_bl j_Lw_lawmain 2899 = some ([(2899, .goto 3141)], 2902) := by rfl
theorem B_Lw_lawmain_2902 : mj_bl j_Lw_lawmain 2902 = some ([(2902, .aload 1), (2903, .aload 0), (2904, .iload 4), (2906, .iconst 1), (2907, .iadd), (2908, .iaload), (2909, .aload 0), (2910, .iload 4), (2912, .iconst 2), (2913, .iadd), (2914, .iaload), (2915, .ifCond .eq 2922), (2918, .iconst 1), (2919, .goto 2923)], 2922) := by rfl
theorem B_Lw_lawmain_2922 : mj_bl j_Lw_lawmain 2922 = some ([(2922, .iconst 0)], 2923) := by rfl
theorem B_Lw_lawmain_2923 : mj_bl j_Lw_lawmain 2923 = some ([(2923, .aload 3), (2924, .invokestatic 50075044), (2927, .istore 5), (2929, .aload 2), (2930, .aload 0), (2931, .iload 4), (2933, .iconst 1), (2934, .iadd), (2935, .iaload), (2936, .aload 0), (2937, .iload 4), (2939, .iconst 2), (2940, .iadd), (2941, .iaload), (2942, .ifCond .eq 2949), (2945, .iconst 1), (2946, .goto 2950)], 2949) := by rfl
theorem B_Lw_lawmain_2949 : mj_bl j_Lw_lawmain 2949 = some ([(2949, .iconst 0)], 2950) := by rfl
theorem B_Lw_lawmain_2950 : mj_bl j_Lw_lawmain 2950 = some ([(2950, .invokevirtual 27924802), (2953, .istore 6), (2955, .aload 2), (2956, .invokevirtual 8914240), (2959, .iload 5), (2961, .if_icmp .eq 2966), (2964, .iconst 0), (2965, .ireturn)], 2966) := by rfl
theorem B_Lw_lawmain_2966 : mj_bl j_Lw_lawmain 2966 = some ([(2966, .iload 5), (2968, .ifCond .ne 2983), (2971, .aload 3), (2972, .iconst 0), (2973, .laload), (2974, .iload 6), (2976, .i2l), (2977, .lcmp), (2978, .ifCond .eq 2983), (2981, .iconst 0), (2982, .ireturn)], 2983) := by rfl
theorem B_Lw_lawmain_2983 : mj_bl j_Lw_lawmain 2983 = some ([(2983, .goto 3141)], 2986) := by rfl
theorem B_Lw_lawmain_2986 : mj_bl j_Lw_lawmain 2986 = some ([(2986, .aload 1), (2987, .aload 0), (2988, .iload 4), (2990, .iconst 1), (2991, .iadd), (2992, .iaload), (2993, .aload 0), (2994, .iload 4), (2996, .iconst 2), (2997, .iadd), (2998, .iaload), (2999, .aload 3), (3000, .invokestatic 50206116), (3003, .istore 5), (3005, .aload 2), (3006, .aload 0), (3007, .iload 4), (3009, .iconst 1), (3010, .iadd), (3011, .iaload), (3012, .aload 0), (3013, .iload 4), (3015, .iconst 2), (3016, .iadd), (3017, .iaload), (3018, .invokevirtual 28052802), (3021, .istore 6), (3023, .aload 2), (3024, .invokevirtual 8914240), (3027, .iload 5), (3029, .if_icmp .eq 3034), (3032, .iconst 0), (3033, .ireturn)], 3034) := by rfl
theorem B_Lw_lawmain_3034 : mj_bl j_Lw_lawmain 3034 = some ([(3034, .iload 5), (3036, .ifCond .ne 3051), (3039, .aload 3), (3040, .iconst 0), (3041, .laload), (3042, .iload 6), (3044, .i2l), (3045, .lcmp), (3046, .ifCond .eq 3051), (3049, .iconst 0), (3050, .ireturn)], 3051) := by rfl
theorem B_Lw_lawmain_3051 : mj_bl j_Lw_lawmain 3051 = some ([(3051, .goto 3141)], 3054) := by rfl
theorem B_Lw_lawmain_3054 : mj_bl j_Lw_lawmain 3054 = some ([(3054, .aload 1), (3055, .aload 0), (3056, .iload 4), (3058, .iconst 1), (3059, .iadd), (3060, .iaload), (3061, .invokevirtual 6425889), (3064, .aload 2), (3065, .aload 0), (3066, .iload 4), (3068, .iconst 1), (3069, .iadd), (3070, .iaload), (3071, .invokevirtual 28183873), (3074, .if_icmp .eq 3141), (3077, .iconst 0), (3078, .ireturn)], 3079) := by rfl
theorem B_Lw_lawmain_3079 : mj_bl j_Lw_lawmain 3079 = some ([(3079, .aload 1), (3080, .invokevirtual 6621472), (3083, .aload 2), (3084, .invokevirtual 28379456), (3087, .if_icmp .eq 3141), (3090, .iconst 0), (3091, .ireturn)], 3092) := by rfl
theorem B_Lw_lawmain_3092 : mj_bl j_Lw_lawmain 3092 = some ([(3092, .aload 1), (3093, .invokevirtual 6685984), (3096, .aload 2), (3097, .invokevirtual 28444992), (3100, .goto 3141)], 3103) := by rfl
theorem B_Lw_lawmain_3103 : mj_bl j_Lw_lawmain 3103 = some ([(3103, .aload 1), (3104, .invokevirtual 6882592), (3107, .aload 2), (3108, .invokevirtual 28641600), (3111, .if_icmp .eq 3141), (3114, .iconst 0), (3115, .ireturn)], 3116) := by rfl
theorem B_Lw_lawmain_3116 : mj_bl j_Lw_lawmain 3116 = some ([(3116, .aload 1), (3117, .aload 0), (3118, .iload 4), (3120, .iconst 1), (3121, .iadd), (3122, .iaload), (3123, .invokevirtual 6949153), (3126, .aload 2), (3127, .aload 0), (3128, .iload 4), (3130, .iconst 1), (3131, .iadd), (3132, .iaload), (3133, .invokevirtual 28707137), (3136, .if_icmp .eq 3141), (3139, .iconst 0), (3140, .ireturn)], 3141) := by rfl
def f_Lw_holt (s : lf_S) : Option (Int32 × lf_S) := lf_wr (f_Main_holt s) (fun x => if x = 0 then some (1 : Int32) else if x = 1 then some (2 : Int32) else none) (fun v s2 => lf_ck (0 : Int32) 1 (fun k1 => lf_lt (lf_wl s2 k1 (v).toInt64) (fun s2 => some ((0 : Int32), s2))))
def f_Lw_law (s : lf_S) : Option (Int32 × lf_S) := lf_wr (f_Main_law s) (fun x => if x = 0 then some (1 : Int32) else none) (fun v s2 => lf_ck (0 : Int32) 1 (fun k1 => lf_lt (lf_wl s2 k1 (v).toInt64) (fun s2 => some ((0 : Int32), s2))))
def f_Lw_bed (x1 : Int32) (x2 : Int32) (s : lf_S) : Option (Int32 × lf_S) := lf_wr (f_Main_bed x1 x2 s) (fun x => if x = 3 then some (1 : Int32) else if x = 2 then some (2 : Int32) else none) (fun v s2 => lf_ck (0 : Int32) 1 (fun k1 => lf_lt (lf_wl s2 k1 (v).toInt64) (fun s2 => some ((0 : Int32), s2))))
def f_Lw_basket (x1 : Int32) (x2 : Int32) (s : lf_S) : Option (Int32 × lf_S) := lf_wr (f_Main_basket x1 x2 s) (fun x => if x = 3 then some (1 : Int32) else if x = 2 then some (2 : Int32) else none) (fun v s2 => lf_ck (0 : Int32) 1 (fun k1 => lf_lt (lf_wl s2 k1 (v).toInt64) (fun s2 => some ((0 : Int32), s2))))
def f_Lw_run (x1 : Int32) (x2 : Int32) (s : lf_S) : Option (Int32 × lf_S) := lf_wr (f_Main_run x1 x2 s) (fun x => if x = 3 then some (1 : Int32) else none) (fun v s2 => lf_ck (0 : Int32) 1 (fun k1 => lf_lt (lf_wl s2 k1 (v).toInt64) (fun s2 => some ((0 : Int32), s2))))
def f_Lw_over (x1 : Int32) (x2 : Int32) (x3 : Int32) (s : lf_S) : Option (Int32 × lf_S) := lf_wr (f_Main_over x1 x2 x3 s) (fun x => if x = 3 then some (1 : Int32) else if x = 0 then some (2 : Int32) else none) (fun v s2 => (if v = true then lf_ck (0 : Int32) 1 (fun k3 => lf_lt (lf_wl s2 k3 (1 : Int64)) (fun s4 => some ((0 : Int32), s4))) else lf_ck (0 : Int32) 1 (fun k1 => lf_lt (lf_wl s2 k1 (0 : Int64)) (fun s2 => some ((0 : Int32), s2)))))
def f_Lw_sound (x1 : Int32) (s : lf_S) : Option (Int32 × lf_S) := lf_wr (f_Main_sound x1 s) (fun x => if x = 3 then some (1 : Int32) else none) (fun v s2 => (if v = true then lf_ck (0 : Int32) 1 (fun k3 => lf_lt (lf_wl s2 k3 (1 : Int64)) (fun s4 => some ((0 : Int32), s4))) else lf_ck (0 : Int32) 1 (fun k1 => lf_lt (lf_wl s2 k1 (0 : Int64)) (fun s2 => some ((0 : Int32), s2)))))
def f_Lw_store (x1 : Int32) (s : lf_S) : Option (Int32 × lf_S) := lf_wr (f_Main_store x1 s) (fun x => if x = 3 then some (1 : Int32) else none) (fun v s2 => lf_ck (0 : Int32) 1 (fun k1 => lf_lt (lf_wl s2 k1 (v).toInt64) (fun s2 => some ((0 : Int32), s2))))
def f_Lw_hand (x1 : Int32) (x2 : Int32) (s : lf_S) : Option (Int32 × lf_S) := lf_wr (f_Main_hand x1 x2 s) (fun x => if x = 3 then some (1 : Int32) else none) (fun v s2 => lf_ck (0 : Int32) 1 (fun k1 => lf_lt (lf_wl s2 k1 (v).toInt64) (fun s2 => some ((0 : Int32), s2))))
def f_Lw_order (x1 : Int32) (x2 : Int32) (s : lf_S) : Option (Int32 × lf_S) := lf_wr (f_Main_order x1 x2 s) (fun x => if x = 3 then some (1 : Int32) else if x = 2 then some (2 : Int32) else none) (fun v s2 => lf_ck (0 : Int32) 1 (fun k1 => lf_lt (lf_wl s2 k1 (v).toInt64) (fun s2 => some ((0 : Int32), s2))))
def f_Lw_years (x1 : Int32) (s : lf_S) : Option (Int32 × lf_S) := lf_wr (f_Main_years x1 s) (fun x => if x = 0 then some (1 : Int32) else none) (fun v s2 => lf_ck (0 : Int32) 1 (fun k1 => lf_lt (lf_wl s2 k1 (v).toInt64) (fun s2 => some ((0 : Int32), s2))))
def f_Lw_cut (x1 : Int32) (s : lf_S) : Option (Int32 × lf_S) := lf_wr (f_Main_cut x1 s) (fun x => if x = 3 then some (1 : Int32) else if x = 4 then some (2 : Int32) else none) (fun v s2 => lf_ck (0 : Int32) 1 (fun k1 => lf_lt (lf_wl s2 k1 (v).toInt64) (fun s2 => some ((0 : Int32), s2))))
def f_Lw_buy (x1 : Int32) (x2 : Int32) (s : lf_S) : Option (Int32 × lf_S) := lf_wr (f_Main_buy x1 x2 s) (fun x => if x = 3 then some (1 : Int32) else if x = 0 then some (2 : Int32) else if x = 4 then some (3 : Int32) else none) (fun v s2 => lf_ck (0 : Int32) 1 (fun k1 => lf_lt (lf_wl s2 k1 (v).toInt64) (fun s2 => some ((0 : Int32), s2))))
def f_Lw_sell (x1 : Int32) (x2 : Int32) (s : lf_S) : Option (Int32 × lf_S) := lf_wr (f_Main_sell x1 x2 s) (fun x => if x = 3 then some (1 : Int32) else if x = 0 then some (2 : Int32) else if x = 4 then some (3 : Int32) else none) (fun v s2 => lf_ck (0 : Int32) 1 (fun k1 => lf_lt (lf_wl s2 k1 (v).toInt64) (fun s2 => some ((0 : Int32), s2))))
def f_Lw_take (x1 : Int32) (x2 : Int32) (s : lf_S) : Option (Int32 × lf_S) := lf_wr (f_Main_take x1 x2 s) (fun x => if x = 3 then some (1 : Int32) else if x = 0 then some (2 : Int32) else if x = 4 then some (3 : Int32) else none) (fun v s2 => lf_ck (0 : Int32) 1 (fun k1 => lf_lt (lf_wl s2 k1 (v).toInt64) (fun s2 => some ((0 : Int32), s2))))
def f_Lw_drop (x1 : Int32) (s : lf_S) : Option (Int32 × lf_S) := lf_wr (f_Main_drop x1 s) (fun x => if x = 3 then some (1 : Int32) else if x = 4 then some (2 : Int32) else none) (fun v s2 => some ((0 : Int32), s2))
def f_Lw_drain (x1 : Int32) (x2 : Int32) (s : lf_S) : Option (Int32 × lf_S) := lf_wr (f_Main_drain x1 x2 s) (fun x => if x = 3 then some (1 : Int32) else if x = 0 then some (2 : Int32) else none) (fun v s2 => lf_ck (0 : Int32) 1 (fun k1 => lf_lt (lf_wl s2 k1 (v).toInt64) (fun s2 => some ((0 : Int32), s2))))
def f_Lw_hire (x1 : Int32) (x2 : Int32) (s : lf_S) : Option (Int32 × lf_S) := lf_wr (f_Main_hire x1 x2 s) (fun x => if x = 0 then some (1 : Int32) else if x = 4 then some (2 : Int32) else none) (fun v s2 => lf_ck (0 : Int32) 1 (fun k1 => lf_lt (lf_wl s2 k1 (v).toInt64) (fun s2 => some ((0 : Int32), s2))))
def f_Lw_teach (x1 : Int32) (s : lf_S) : Option (Int32 × lf_S) := lf_wr (f_Main_teach x1 s) (fun x => if x = 3 then some (1 : Int32) else none) (fun v s2 => lf_ck (0 : Int32) 1 (fun k1 => lf_lt (lf_wl s2 k1 (v).toInt64) (fun s2 => some ((0 : Int32), s2))))
def f_Lw_make (x1 : Int32) (s : lf_S) : Option (Int32 × lf_S) := lf_wr (f_Main_make x1 s) (fun x => if x = 3 then some (1 : Int32) else if x = 4 then some (2 : Int32) else none) (fun v s2 => lf_ck (0 : Int32) 1 (fun k1 => lf_lt (lf_wl s2 k1 (v).toInt64) (fun s2 => some ((0 : Int32), s2))))
def f_Lw_gain (x1 : Int32) (x2 : Int32) (s : lf_S) : Option (Int32 × lf_S) := lf_wr (f_Main_gain x1 x2 s) (fun x => if x = 3 then some (1 : Int32) else if x = 0 then some (2 : Int32) else none) (fun v s2 => lf_ck (0 : Int32) 1 (fun k1 => lf_lt (lf_wl s2 k1 (v).toInt64) (fun s2 => some ((0 : Int32), s2))))
def f_Lw_cuts (x1 : Int32) (x2 : Int32) (s : lf_S) : Option (Int32 × lf_S) := lf_wr (f_Main_cuts x1 x2 s) (fun x => if x = 3 then some (1 : Int32) else if x = 0 then some (2 : Int32) else none) (fun v s2 => lf_ck (0 : Int32) 1 (fun k1 => lf_lt (lf_wl s2 k1 (v).toInt64) (fun s2 => some ((0 : Int32), s2))))
def f_Lw_pieces (x1 : Int32) (s : lf_S) : Option (Int32 × lf_S) := lf_wr (f_Main_pieces x1 s) (fun x => if x = 3 then some (1 : Int32) else if x = 0 then some (2 : Int32) else none) (fun v s2 => lf_ck (0 : Int32) 1 (fun k1 => lf_lt (lf_wl s2 k1 (v).toInt64) (fun s2 => some ((0 : Int32), s2))))
def f_Lw_rod (x1 : Int32) (x2 : Int32) (s : lf_S) : Option (Int32 × lf_S) := lf_wr (f_Main_rod x1 x2 s) (fun x => if x = 3 then some (1 : Int32) else if x = 0 then some (2 : Int32) else none) (fun v s2 => lf_ck (0 : Int32) 1 (fun k1 => lf_lt (lf_wl s2 k1 (v).toInt64) (fun s2 => some ((0 : Int32), s2))))
def f_Lw_found (x1 : Int32) (s : lf_S) : Option (Int32 × lf_S) := lf_wr (f_Main_found x1 s) (fun x => if x = 0 then some (1 : Int32) else none) (fun v s2 => lf_ck (0 : Int32) 1 (fun k1 => lf_lt (lf_wl s2 k1 (v).toInt64) (fun s2 => some ((0 : Int32), s2))))
def f_Lw_look (s : lf_S) : Option (Int32 × lf_S) := lf_wr (f_Main_look s) (fun x => if x = 0 then some (1 : Int32) else none) (fun v s2 => lf_ck (0 : Int32) 1 (fun k1 => lf_lt (lf_wl s2 k1 (v).toInt64) (fun s2 => some ((0 : Int32), s2))))
def f_Lw_team (x1 : Int32) (s : lf_S) : Option (Int32 × lf_S) := lf_wr (f_Main_team x1 s) (fun x => if x = 3 then some (1 : Int32) else none) (fun v s2 => lf_ck (0 : Int32) 1 (fun k1 => lf_lt (lf_wl s2 k1 (v).toInt64) (fun s2 => some ((0 : Int32), s2))))
def f_Lw_pairs (x1 : Int32) (s : lf_S) : Option (Int32 × lf_S) := lf_wr (f_Main_pairs x1 s) (fun x => if x = 3 then some (1 : Int32) else none) (fun v s2 => lf_ck (0 : Int32) 1 (fun k1 => lf_lt (lf_wl s2 k1 (v).toInt64) (fun s2 => some ((0 : Int32), s2))))
def f_Lw_change (x1 : Int32) (x2 : Int32) (s : lf_S) : Option (Int32 × lf_S) := lf_wr (f_Main_change x1 x2 s) (fun x => if x = 3 then some (1 : Int32) else none) (fun v s2 => lf_ck (0 : Int32) 1 (fun k1 => lf_lt (lf_wl s2 k1 (v).toInt64) (fun s2 => some ((0 : Int32), s2))))
def f_Lw_share (x1 : Int32) (x2 : Int32) (s : lf_S) : Option (Int32 × lf_S) := lf_wr (f_Main_share x1 x2 s) (fun x => if x = 3 then some (1 : Int32) else if x = 0 then some (2 : Int32) else none) (fun v s2 => lf_ck (0 : Int32) 1 (fun k1 => lf_lt (lf_wl s2 k1 (v).toInt64) (fun s2 => some ((0 : Int32), s2))))
def f_Lw_price (x1 : Int32) (s : lf_S) : Option (Int32 × lf_S) := lf_wr (f_Main_price x1 s) (fun x => if x = 3 then some (1 : Int32) else none) (fun v s2 => lf_ck (0 : Int32) 1 (fun k1 => lf_lt (lf_wl s2 k1 (v).toInt64) (fun s2 => some ((0 : Int32), s2))))
def f_Lw_rests (x1 : Int32) (s : lf_S) : Option (Int32 × lf_S) := lf_wr (f_Main_rests x1 s) (fun x => if x = 3 then some (1 : Int32) else none) (fun v s2 => lf_ck (0 : Int32) 1 (fun k1 => lf_lt (lf_wl s2 k1 (v).toInt64) (fun s2 => some ((0 : Int32), s2))))
def f_Lw_odds (x1 : Int32) (x2 : Int32) (s : lf_S) : Option (Int32 × lf_S) := lf_wr (f_Main_odds x1 x2 s) (fun x => if x = 0 then some (1 : Int32) else none) (fun v s2 => lf_ck (0 : Int32) 1 (fun k1 => lf_lt (lf_wl s2 k1 (v).toInt64) (fun s2 => some ((0 : Int32), s2))))
def f_Lw_most (x1 : Int32) (s : lf_S) : Option (Int32 × lf_S) := lf_wr (f_Main_most x1 s) (fun x => if x = 2 then some (1 : Int32) else none) (fun v s2 => lf_ck (0 : Int32) 1 (fun k1 => lf_lt (lf_wl s2 k1 (v).toInt64) (fun s2 => some ((0 : Int32), s2))))
def f_Lw_sort (x1 : Int32) (s : lf_S) : Option (Int32 × lf_S) := lf_wr (f_Main_sort x1 s) (fun x => if x = 3 then some (1 : Int32) else none) (fun v s2 => lf_ck (0 : Int32) 1 (fun k1 => lf_lt (lf_wl s2 k1 (v).toInt64) (fun s2 => some ((0 : Int32), s2))))
def f_Lw_ahead (x1 : Int32) (x2 : Int32) (x3 : Int32) (s : lf_S) : Option (Int32 × lf_S) := lf_wr (f_Main_ahead x1 x2 x3 s) (fun x => if x = 3 then some (1 : Int32) else if x = 0 then some (2 : Int32) else none) (fun v s2 => lf_ck (0 : Int32) 1 (fun k1 => lf_lt (lf_wl s2 k1 (v).toInt64) (fun s2 => some ((0 : Int32), s2))))
def f_Lw_trial (x1 : Int32) (x2 : Int32) (s : lf_S) : Option (Int32 × lf_S) := lf_wr (f_Main_trial x1 x2 s) (fun x => if x = 0 then some (1 : Int32) else none) (fun v s2 => lf_ck (0 : Int32) 1 (fun k1 => lf_lt (lf_wl s2 k1 (v).toInt64) (fun s2 => some ((0 : Int32), s2))))
def f_Lw_span (x1 : Int32) (x2 : Int32) (s : lf_S) : Option (Int32 × lf_S) := lf_wr (f_Main_span x1 x2 s) (fun x => if x = 0 then some (1 : Int32) else none) (fun v s2 => lf_ck (0 : Int32) 1 (fun k1 => lf_lt (lf_wl s2 k1 (v).toInt64) (fun s2 => some ((0 : Int32), s2))))
def f_Lw_led (x1 : Int32) (x2 : Int32) (s : lf_S) : Option (Int32 × lf_S) := lf_wr (f_Main_led x1 x2 s) (fun x => if x = 3 then some (1 : Int32) else none) (fun v s2 => lf_ck (0 : Int32) 1 (fun k1 => lf_lt (lf_wl s2 k1 (v).toInt64) (fun s2 => some ((0 : Int32), s2))))
def f_Lw_log (x1 : Int32) (x2 : Int32) (s : lf_S) : Option (Int32 × lf_S) := lf_wr (f_Main_log x1 x2 s) (fun x => if x = 2 then some (1 : Int32) else none) (fun v s2 => lf_ck (0 : Int32) 1 (fun k1 => lf_lt (lf_wl s2 k1 (v).toInt64) (fun s2 => some ((0 : Int32), s2))))
def f_case_0 (z1 : Int32) (z2 : Int32) (z3 : Int32) (z4 : Int32) (z5 : Int32) (s : lf_S) : Option lf_S := (f_Main_feed z1 z2 z3 z4 z5 s).bind (fun p1 => (f_Mod_feed z1 z2 z3 z4 z5 p1.2).bind (fun p2 => (if p1.1 = p2.1 then some p2.2 else none)))
def f_case_1 (z1 : Int32) (s : lf_S) : Option lf_S := (f_Main_end z1 s).bind (fun p1 => (f_Mod_end z1 p1.2).bind (fun p2 => (if p1.1 = p2.1 then some p2.2 else none)))
def f_case_2 (s : lf_S) : Option lf_S := (f_Lw_holt s).bind (fun p1 => lf_lt p1.1 (fun y2 => (f_Mod_holt p1.2).bind (fun p3 => lf_lt p3.1 (fun y4 => (f_Mod_thrown p3.2).bind (fun p5 => (if p5 = y2 then (if y2 = 0 then lf_ck (0 : Int32) 1 (fun k6 => (if (lg_cmp (p3.2.2 k6) (y4).toInt64) = 0 then some p3.2 else none)) else some p3.2) else none))))))
def f_case_3 (s : lf_S) : Option lf_S := (f_Lw_law s).bind (fun p1 => lf_lt p1.1 (fun y2 => (f_Mod_law p1.2).bind (fun p3 => lf_lt p3.1 (fun y4 => (f_Mod_thrown p3.2).bind (fun p5 => (if p5 = y2 then (if y2 = 0 then lf_ck (0 : Int32) 1 (fun k6 => (if (lg_cmp (p3.2.2 k6) (y4).toInt64) = 0 then some p3.2 else none)) else some p3.2) else none))))))
def f_case_4 (s : lf_S) : Option lf_S := (f_Main_fault s).bind (fun p1 => (f_Mod_fault s).bind (fun p2 => (if p1 = p2.1 then some p2.2 else none)))
def f_case_5 (z1 : Int32) (z2 : Int32) (s : lf_S) : Option lf_S := (f_Lw_bed z1 z2 s).bind (fun p1 => lf_lt p1.1 (fun y2 => (f_Mod_bed z1 z2 p1.2).bind (fun p3 => lf_lt p3.1 (fun y4 => (f_Mod_thrown p3.2).bind (fun p5 => (if p5 = y2 then (if y2 = 0 then lf_ck (0 : Int32) 1 (fun k6 => (if (lg_cmp (p3.2.2 k6) (y4).toInt64) = 0 then some p3.2 else none)) else some p3.2) else none))))))
def f_case_6 (z1 : Int32) (z2 : Int32) (s : lf_S) : Option lf_S := (f_Lw_basket z1 z2 s).bind (fun p1 => lf_lt p1.1 (fun y2 => (f_Mod_basket z1 z2 p1.2).bind (fun p3 => lf_lt p3.1 (fun y4 => (f_Mod_thrown p3.2).bind (fun p5 => (if p5 = y2 then (if y2 = 0 then lf_ck (0 : Int32) 1 (fun k6 => (if (lg_cmp (p3.2.2 k6) (y4).toInt64) = 0 then some p3.2 else none)) else some p3.2) else none))))))
def f_case_7 (z1 : Int32) (z2 : Int32) (s : lf_S) : Option lf_S := (f_Lw_run z1 z2 s).bind (fun p1 => lf_lt p1.1 (fun y2 => (f_Mod_run z1 z2 p1.2).bind (fun p3 => lf_lt p3.1 (fun y4 => (f_Mod_thrown p3.2).bind (fun p5 => (if p5 = y2 then (if y2 = 0 then lf_ck (0 : Int32) 1 (fun k6 => (if (lg_cmp (p3.2.2 k6) (y4).toInt64) = 0 then some p3.2 else none)) else some p3.2) else none))))))
def f_case_8 (z1 : Int32) (z2 : Int32) (z3 : Int32) (s : lf_S) : Option lf_S := (f_Lw_over z1 z2 z3 s).bind (fun p1 => lf_lt p1.1 (fun y2 => (f_Mod_over z1 z2 z3 p1.2).bind (fun p3 => lf_lt p3.1 (fun e4 => (f_Mod_thrown p3.2).bind (fun p5 => (if p5 = y2 then (if y2 = 0 then lf_ck (0 : Int32) 1 (fun k6 => (if e4 = true then (if (lg_cmp (p3.2.2 k6) (1 : Int64)) = 0 then some p3.2 else none) else (if (lg_cmp (p3.2.2 k6) (0 : Int64)) = 0 then some p3.2 else none))) else some p3.2) else none))))))
def f_case_9 (z1 : Int32) (s : lf_S) : Option lf_S := (f_Lw_sound z1 s).bind (fun p1 => lf_lt p1.1 (fun y2 => (f_Mod_sound z1 p1.2).bind (fun p3 => lf_lt p3.1 (fun e4 => (f_Mod_thrown p3.2).bind (fun p5 => (if p5 = y2 then (if y2 = 0 then lf_ck (0 : Int32) 1 (fun k6 => (if e4 = true then (if (lg_cmp (p3.2.2 k6) (1 : Int64)) = 0 then some p3.2 else none) else (if (lg_cmp (p3.2.2 k6) (0 : Int64)) = 0 then some p3.2 else none))) else some p3.2) else none))))))
def f_case_10 (z1 : Int32) (s : lf_S) : Option lf_S := (f_Lw_store z1 s).bind (fun p1 => lf_lt p1.1 (fun y2 => (f_Mod_store z1 p1.2).bind (fun p3 => lf_lt p3.1 (fun y4 => (f_Mod_thrown p3.2).bind (fun p5 => (if p5 = y2 then (if y2 = 0 then lf_ck (0 : Int32) 1 (fun k6 => (if (lg_cmp (p3.2.2 k6) (y4).toInt64) = 0 then some p3.2 else none)) else some p3.2) else none))))))
def f_case_11 (z1 : Int32) (z2 : Int32) (s : lf_S) : Option lf_S := (if z2 = 0 then (f_Lw_hand z1 (0 : Int32) s).bind (fun p1 => lf_lt p1.1 (fun y2 => (if z2 = 0 then (f_Mod_hand z1 (0 : Int32) p1.2).bind (fun p3 => lf_lt p3.1 (fun y4 => (f_Mod_thrown p3.2).bind (fun p5 => (if p5 = y2 then (if y2 = 0 then lf_ck (0 : Int32) 1 (fun k6 => (if (lg_cmp (p3.2.2 k6) (y4).toInt64) = 0 then some p3.2 else none)) else some p3.2) else none)))) else (f_Mod_hand z1 (1 : Int32) p1.2).bind (fun p7 => lf_lt p7.1 (fun y8 => (f_Mod_thrown p7.2).bind (fun p9 => (if p9 = y2 then (if y2 = 0 then lf_ck (0 : Int32) 1 (fun k10 => (if (lg_cmp (p7.2.2 k10) (y8).toInt64) = 0 then some p7.2 else none)) else some p7.2) else none))))))) else (f_Lw_hand z1 (1 : Int32) s).bind (fun p11 => lf_lt p11.1 (fun y12 => (if z2 = 0 then (f_Mod_hand z1 (0 : Int32) p11.2).bind (fun p13 => lf_lt p13.1 (fun y14 => (f_Mod_thrown p13.2).bind (fun p15 => (if p15 = y12 then (if y12 = 0 then lf_ck (0 : Int32) 1 (fun k16 => (if (lg_cmp (p13.2.2 k16) (y14).toInt64) = 0 then some p13.2 else none)) else some p13.2) else none)))) else (f_Mod_hand z1 (1 : Int32) p11.2).bind (fun p17 => lf_lt p17.1 (fun y18 => (f_Mod_thrown p17.2).bind (fun p19 => (if p19 = y12 then (if y12 = 0 then lf_ck (0 : Int32) 1 (fun k20 => (if (lg_cmp (p17.2.2 k20) (y18).toInt64) = 0 then some p17.2 else none)) else some p17.2) else none))))))))
def f_case_12 (z1 : Int32) (z2 : Int32) (s : lf_S) : Option lf_S := (f_Lw_order z1 z2 s).bind (fun p1 => lf_lt p1.1 (fun y2 => (f_Mod_order z1 z2 p1.2).bind (fun p3 => lf_lt p3.1 (fun y4 => (f_Mod_thrown p3.2).bind (fun p5 => (if p5 = y2 then (if y2 = 0 then lf_ck (0 : Int32) 1 (fun k6 => (if (lg_cmp (p3.2.2 k6) (y4).toInt64) = 0 then some p3.2 else none)) else some p3.2) else none))))))
def f_case_13 (z1 : Int32) (s : lf_S) : Option lf_S := (f_Lw_years z1 s).bind (fun p1 => lf_lt p1.1 (fun y2 => (f_Mod_years z1 p1.2).bind (fun p3 => lf_lt p3.1 (fun y4 => (f_Mod_thrown p3.2).bind (fun p5 => (if p5 = y2 then (if y2 = 0 then lf_ck (0 : Int32) 1 (fun k6 => (if (lg_cmp (p3.2.2 k6) (y4).toInt64) = 0 then some p3.2 else none)) else some p3.2) else none))))))
def f_case_14 (z1 : Int32) (s : lf_S) : Option lf_S := (f_Lw_cut z1 s).bind (fun p1 => lf_lt p1.1 (fun y2 => (f_Mod_cut z1 p1.2).bind (fun p3 => lf_lt p3.1 (fun y4 => (f_Mod_thrown p3.2).bind (fun p5 => (if p5 = y2 then (if y2 = 0 then lf_ck (0 : Int32) 1 (fun k6 => (if (lg_cmp (p3.2.2 k6) (y4).toInt64) = 0 then some p3.2 else none)) else some p3.2) else none))))))
def f_case_15 (z1 : Int32) (z2 : Int32) (s : lf_S) : Option lf_S := (f_Lw_buy z1 z2 s).bind (fun p1 => lf_lt p1.1 (fun y2 => (f_Mod_buy z1 z2 p1.2).bind (fun p3 => lf_lt p3.1 (fun y4 => (f_Mod_thrown p3.2).bind (fun p5 => (if p5 = y2 then (if y2 = 0 then lf_ck (0 : Int32) 1 (fun k6 => (if (lg_cmp (p3.2.2 k6) (y4).toInt64) = 0 then some p3.2 else none)) else some p3.2) else none))))))
def f_case_16 (z1 : Int32) (z2 : Int32) (s : lf_S) : Option lf_S := (f_Lw_sell z1 z2 s).bind (fun p1 => lf_lt p1.1 (fun y2 => (f_Mod_sell z1 z2 p1.2).bind (fun p3 => lf_lt p3.1 (fun y4 => (f_Mod_thrown p3.2).bind (fun p5 => (if p5 = y2 then (if y2 = 0 then lf_ck (0 : Int32) 1 (fun k6 => (if (lg_cmp (p3.2.2 k6) (y4).toInt64) = 0 then some p3.2 else none)) else some p3.2) else none))))))
def f_case_17 (z1 : Int32) (z2 : Int32) (s : lf_S) : Option lf_S := (f_Lw_take z1 z2 s).bind (fun p1 => lf_lt p1.1 (fun y2 => (f_Mod_take z1 z2 p1.2).bind (fun p3 => lf_lt p3.1 (fun y4 => (f_Mod_thrown p3.2).bind (fun p5 => (if p5 = y2 then (if y2 = 0 then lf_ck (0 : Int32) 1 (fun k6 => (if (lg_cmp (p3.2.2 k6) (y4).toInt64) = 0 then some p3.2 else none)) else some p3.2) else none))))))
def f_case_18 (z1 : Int32) (s : lf_S) : Option lf_S := (f_Lw_drop z1 s).bind (fun p1 => lf_lt p1.1 (fun y2 => (f_Mod_drop z1 p1.2).bind (fun p3 => (f_Mod_thrown p3).bind (fun p4 => (if p4 = y2 then some p3 else none)))))
def f_case_19 (z1 : Int32) (z2 : Int32) (s : lf_S) : Option lf_S := (f_Lw_drain z1 z2 s).bind (fun p1 => lf_lt p1.1 (fun y2 => (f_Mod_drain z1 z2 p1.2).bind (fun p3 => lf_lt p3.1 (fun y4 => (f_Mod_thrown p3.2).bind (fun p5 => (if p5 = y2 then (if y2 = 0 then lf_ck (0 : Int32) 1 (fun k6 => (if (lg_cmp (p3.2.2 k6) (y4).toInt64) = 0 then some p3.2 else none)) else some p3.2) else none))))))
def f_case_20 (z1 : Int32) (z2 : Int32) (s : lf_S) : Option lf_S := (f_Lw_hire z1 z2 s).bind (fun p1 => lf_lt p1.1 (fun y2 => (f_Mod_hire z1 z2 p1.2).bind (fun p3 => lf_lt p3.1 (fun y4 => (f_Mod_thrown p3.2).bind (fun p5 => (if p5 = y2 then (if y2 = 0 then lf_ck (0 : Int32) 1 (fun k6 => (if (lg_cmp (p3.2.2 k6) (y4).toInt64) = 0 then some p3.2 else none)) else some p3.2) else none))))))
def f_case_21 (z1 : Int32) (s : lf_S) : Option lf_S := (f_Lw_teach z1 s).bind (fun p1 => lf_lt p1.1 (fun y2 => (f_Mod_teach z1 p1.2).bind (fun p3 => lf_lt p3.1 (fun y4 => (f_Mod_thrown p3.2).bind (fun p5 => (if p5 = y2 then (if y2 = 0 then lf_ck (0 : Int32) 1 (fun k6 => (if (lg_cmp (p3.2.2 k6) (y4).toInt64) = 0 then some p3.2 else none)) else some p3.2) else none))))))
def f_case_22 (z1 : Int32) (s : lf_S) : Option lf_S := (f_Lw_make z1 s).bind (fun p1 => lf_lt p1.1 (fun y2 => (f_Mod_make z1 p1.2).bind (fun p3 => lf_lt p3.1 (fun y4 => (f_Mod_thrown p3.2).bind (fun p5 => (if p5 = y2 then (if y2 = 0 then lf_ck (0 : Int32) 1 (fun k6 => (if (lg_cmp (p3.2.2 k6) (y4).toInt64) = 0 then some p3.2 else none)) else some p3.2) else none))))))
def f_case_23 (z1 : Int32) (z2 : Int32) (s : lf_S) : Option lf_S := (f_Lw_gain z1 z2 s).bind (fun p1 => lf_lt p1.1 (fun y2 => (f_Mod_gain z1 z2 p1.2).bind (fun p3 => lf_lt p3.1 (fun y4 => (f_Mod_thrown p3.2).bind (fun p5 => (if p5 = y2 then (if y2 = 0 then lf_ck (0 : Int32) 1 (fun k6 => (if (lg_cmp (p3.2.2 k6) (y4).toInt64) = 0 then some p3.2 else none)) else some p3.2) else none))))))
def f_case_24 (z1 : Int32) (z2 : Int32) (s : lf_S) : Option lf_S := (f_Lw_cuts z1 z2 s).bind (fun p1 => lf_lt p1.1 (fun y2 => (f_Mod_cuts z1 z2 p1.2).bind (fun p3 => lf_lt p3.1 (fun y4 => (f_Mod_thrown p3.2).bind (fun p5 => (if p5 = y2 then (if y2 = 0 then lf_ck (0 : Int32) 1 (fun k6 => (if (lg_cmp (p3.2.2 k6) (y4).toInt64) = 0 then some p3.2 else none)) else some p3.2) else none))))))
def f_case_25 (s : lf_S) : Option lf_S := (f_Main_worth s).bind (fun p1 => (f_Mod_worth s).bind (fun p2 => (if p1 = p2.1 then some p2.2 else none)))
def f_case_26 (s : lf_S) : Option lf_S := (f_Main_fills s).bind (fun p1 => (f_Mod_fills s).bind (fun p2 => (if p1 = p2.1 then some p2.2 else none)))
def f_case_27 (z1 : Int32) (s : lf_S) : Option lf_S := (f_Lw_pieces z1 s).bind (fun p1 => lf_lt p1.1 (fun y2 => (f_Mod_pieces z1 p1.2).bind (fun p3 => lf_lt p3.1 (fun y4 => (f_Mod_thrown p3.2).bind (fun p5 => (if p5 = y2 then (if y2 = 0 then lf_ck (0 : Int32) 1 (fun k6 => (if (lg_cmp (p3.2.2 k6) (y4).toInt64) = 0 then some p3.2 else none)) else some p3.2) else none))))))
def f_case_28 (z1 : Int32) (z2 : Int32) (s : lf_S) : Option lf_S := (f_Lw_rod z1 z2 s).bind (fun p1 => lf_lt p1.1 (fun y2 => (f_Mod_rod z1 z2 p1.2).bind (fun p3 => lf_lt p3.1 (fun y4 => (f_Mod_thrown p3.2).bind (fun p5 => (if p5 = y2 then (if y2 = 0 then lf_ck (0 : Int32) 1 (fun k6 => (if (lg_cmp (p3.2.2 k6) (y4).toInt64) = 0 then some p3.2 else none)) else some p3.2) else none))))))
def f_case_29 (z1 : Int32) (s : lf_S) : Option lf_S := (if z1 = 0 then (f_Lw_found (0 : Int32) s).bind (fun p1 => lf_lt p1.1 (fun y2 => (if z1 = 0 then (f_Mod_found (0 : Int32) p1.2).bind (fun p3 => lf_lt p3.1 (fun y4 => (f_Mod_thrown p3.2).bind (fun p5 => (if p5 = y2 then (if y2 = 0 then lf_ck (0 : Int32) 1 (fun k6 => (if (lg_cmp (p3.2.2 k6) (y4).toInt64) = 0 then some p3.2 else none)) else some p3.2) else none)))) else (f_Mod_found (1 : Int32) p1.2).bind (fun p7 => lf_lt p7.1 (fun y8 => (f_Mod_thrown p7.2).bind (fun p9 => (if p9 = y2 then (if y2 = 0 then lf_ck (0 : Int32) 1 (fun k10 => (if (lg_cmp (p7.2.2 k10) (y8).toInt64) = 0 then some p7.2 else none)) else some p7.2) else none))))))) else (f_Lw_found (1 : Int32) s).bind (fun p11 => lf_lt p11.1 (fun y12 => (if z1 = 0 then (f_Mod_found (0 : Int32) p11.2).bind (fun p13 => lf_lt p13.1 (fun y14 => (f_Mod_thrown p13.2).bind (fun p15 => (if p15 = y12 then (if y12 = 0 then lf_ck (0 : Int32) 1 (fun k16 => (if (lg_cmp (p13.2.2 k16) (y14).toInt64) = 0 then some p13.2 else none)) else some p13.2) else none)))) else (f_Mod_found (1 : Int32) p11.2).bind (fun p17 => lf_lt p17.1 (fun y18 => (f_Mod_thrown p17.2).bind (fun p19 => (if p19 = y12 then (if y12 = 0 then lf_ck (0 : Int32) 1 (fun k20 => (if (lg_cmp (p17.2.2 k20) (y18).toInt64) = 0 then some p17.2 else none)) else some p17.2) else none))))))))
def f_case_30 (s : lf_S) : Option lf_S := (f_Lw_look s).bind (fun p1 => lf_lt p1.1 (fun y2 => (f_Mod_look p1.2).bind (fun p3 => lf_lt p3.1 (fun y4 => (f_Mod_thrown p3.2).bind (fun p5 => (if p5 = y2 then (if y2 = 0 then lf_ck (0 : Int32) 1 (fun k6 => (if (lg_cmp (p3.2.2 k6) (y4).toInt64) = 0 then some p3.2 else none)) else some p3.2) else none))))))
def f_case_31 (z1 : Int32) (s : lf_S) : Option lf_S := (f_Lw_team z1 s).bind (fun p1 => lf_lt p1.1 (fun y2 => (f_Mod_team z1 p1.2).bind (fun p3 => lf_lt p3.1 (fun y4 => (f_Mod_thrown p3.2).bind (fun p5 => (if p5 = y2 then (if y2 = 0 then lf_ck (0 : Int32) 1 (fun k6 => (if (lg_cmp (p3.2.2 k6) (y4).toInt64) = 0 then some p3.2 else none)) else some p3.2) else none))))))
def f_case_32 (z1 : Int32) (s : lf_S) : Option lf_S := (f_Lw_pairs z1 s).bind (fun p1 => lf_lt p1.1 (fun y2 => (f_Mod_pairs z1 p1.2).bind (fun p3 => lf_lt p3.1 (fun y4 => (f_Mod_thrown p3.2).bind (fun p5 => (if p5 = y2 then (if y2 = 0 then lf_ck (0 : Int32) 1 (fun k6 => (if (lg_cmp (p3.2.2 k6) (y4).toInt64) = 0 then some p3.2 else none)) else some p3.2) else none))))))
def f_case_33 (z1 : Int32) (z2 : Int32) (s : lf_S) : Option lf_S := (f_Lw_change z1 z2 s).bind (fun p1 => lf_lt p1.1 (fun y2 => (f_Mod_change z1 z2 p1.2).bind (fun p3 => lf_lt p3.1 (fun y4 => (f_Mod_thrown p3.2).bind (fun p5 => (if p5 = y2 then (if y2 = 0 then lf_ck (0 : Int32) 1 (fun k6 => (if (lg_cmp (p3.2.2 k6) (y4).toInt64) = 0 then some p3.2 else none)) else some p3.2) else none))))))
def f_case_34 (z1 : Int32) (z2 : Int32) (s : lf_S) : Option lf_S := (f_Lw_share z1 z2 s).bind (fun p1 => lf_lt p1.1 (fun y2 => (f_Mod_share z1 z2 p1.2).bind (fun p3 => lf_lt p3.1 (fun y4 => (f_Mod_thrown p3.2).bind (fun p5 => (if p5 = y2 then (if y2 = 0 then lf_ck (0 : Int32) 1 (fun k6 => (if (lg_cmp (p3.2.2 k6) (y4).toInt64) = 0 then some p3.2 else none)) else some p3.2) else none))))))
def f_case_35 (z1 : Int32) (s : lf_S) : Option lf_S := (f_Lw_price z1 s).bind (fun p1 => lf_lt p1.1 (fun y2 => (f_Mod_price z1 p1.2).bind (fun p3 => lf_lt p3.1 (fun y4 => (f_Mod_thrown p3.2).bind (fun p5 => (if p5 = y2 then (if y2 = 0 then lf_ck (0 : Int32) 1 (fun k6 => (if (lg_cmp (p3.2.2 k6) (y4).toInt64) = 0 then some p3.2 else none)) else some p3.2) else none))))))
def f_case_36 (z1 : Int32) (s : lf_S) : Option lf_S := (f_Lw_rests z1 s).bind (fun p1 => lf_lt p1.1 (fun y2 => (f_Mod_rests z1 p1.2).bind (fun p3 => lf_lt p3.1 (fun y4 => (f_Mod_thrown p3.2).bind (fun p5 => (if p5 = y2 then (if y2 = 0 then lf_ck (0 : Int32) 1 (fun k6 => (if (lg_cmp (p3.2.2 k6) (y4).toInt64) = 0 then some p3.2 else none)) else some p3.2) else none))))))
def f_case_37 (z1 : Int32) (z2 : Int32) (s : lf_S) : Option lf_S := (f_Lw_odds z1 z2 s).bind (fun p1 => lf_lt p1.1 (fun y2 => (f_Mod_odds z1 z2 p1.2).bind (fun p3 => lf_lt p3.1 (fun y4 => (f_Mod_thrown p3.2).bind (fun p5 => (if p5 = y2 then (if y2 = 0 then lf_ck (0 : Int32) 1 (fun k6 => (if (lg_cmp (p3.2.2 k6) (y4).toInt64) = 0 then some p3.2 else none)) else some p3.2) else none))))))
def f_case_38 (z1 : Int32) (s : lf_S) : Option lf_S := (f_Lw_most z1 s).bind (fun p1 => lf_lt p1.1 (fun y2 => (f_Mod_most z1 p1.2).bind (fun p3 => lf_lt p3.1 (fun y4 => (f_Mod_thrown p3.2).bind (fun p5 => (if p5 = y2 then (if y2 = 0 then lf_ck (0 : Int32) 1 (fun k6 => (if (lg_cmp (p3.2.2 k6) (y4).toInt64) = 0 then some p3.2 else none)) else some p3.2) else none))))))
def f_case_39 (z1 : Int32) (s : lf_S) : Option lf_S := (if z1 = 0 then (f_Main_open (0 : Int32) s).bind (fun p1 => (if z1 = 0 then (f_Mod_open (0 : Int32) s).bind (fun p2 => (if p1 = p2.1 then some p2.2 else none)) else (f_Mod_open (1 : Int32) s).bind (fun p3 => (if p1 = p3.1 then some p3.2 else none)))) else (f_Main_open (1 : Int32) s).bind (fun p4 => (if z1 = 0 then (f_Mod_open (0 : Int32) s).bind (fun p5 => (if p4 = p5.1 then some p5.2 else none)) else (f_Mod_open (1 : Int32) s).bind (fun p6 => (if p4 = p6.1 then some p6.2 else none)))))
def f_case_40 (s : lf_S) : Option lf_S := (f_Main_twins s).bind (fun p1 => (f_Mod_twins s).bind (fun p2 => (if p1 = p2.1 then some p2.2 else none)))
def f_case_41 (z1 : Int32) (s : lf_S) : Option lf_S := (f_Lw_sort z1 s).bind (fun p1 => lf_lt p1.1 (fun y2 => (f_Mod_sort z1 p1.2).bind (fun p3 => lf_lt p3.1 (fun y4 => (f_Mod_thrown p3.2).bind (fun p5 => (if p5 = y2 then (if y2 = 0 then lf_ck (0 : Int32) 1 (fun k6 => (if (lg_cmp (p3.2.2 k6) (y4).toInt64) = 0 then some p3.2 else none)) else some p3.2) else none))))))
def f_case_42 (s : lf_S) : Option lf_S := (f_Main_lengths s).bind (fun p1 => (f_Mod_lengths s).bind (fun p2 => (if p1 = p2.1 then some p2.2 else none)))
def f_case_43 (z1 : Int32) (z2 : Int32) (z3 : Int32) (s : lf_S) : Option lf_S := (if z3 = 0 then (f_Lw_ahead z1 z2 (0 : Int32) s).bind (fun p1 => lf_lt p1.1 (fun y2 => (if z3 = 0 then (f_Mod_ahead z1 z2 (0 : Int32) p1.2).bind (fun p3 => lf_lt p3.1 (fun y4 => (f_Mod_thrown p3.2).bind (fun p5 => (if p5 = y2 then (if y2 = 0 then lf_ck (0 : Int32) 1 (fun k6 => (if (lg_cmp (p3.2.2 k6) (y4).toInt64) = 0 then some p3.2 else none)) else some p3.2) else none)))) else (f_Mod_ahead z1 z2 (1 : Int32) p1.2).bind (fun p7 => lf_lt p7.1 (fun y8 => (f_Mod_thrown p7.2).bind (fun p9 => (if p9 = y2 then (if y2 = 0 then lf_ck (0 : Int32) 1 (fun k10 => (if (lg_cmp (p7.2.2 k10) (y8).toInt64) = 0 then some p7.2 else none)) else some p7.2) else none))))))) else (f_Lw_ahead z1 z2 (1 : Int32) s).bind (fun p11 => lf_lt p11.1 (fun y12 => (if z3 = 0 then (f_Mod_ahead z1 z2 (0 : Int32) p11.2).bind (fun p13 => lf_lt p13.1 (fun y14 => (f_Mod_thrown p13.2).bind (fun p15 => (if p15 = y12 then (if y12 = 0 then lf_ck (0 : Int32) 1 (fun k16 => (if (lg_cmp (p13.2.2 k16) (y14).toInt64) = 0 then some p13.2 else none)) else some p13.2) else none)))) else (f_Mod_ahead z1 z2 (1 : Int32) p11.2).bind (fun p17 => lf_lt p17.1 (fun y18 => (f_Mod_thrown p17.2).bind (fun p19 => (if p19 = y12 then (if y12 = 0 then lf_ck (0 : Int32) 1 (fun k20 => (if (lg_cmp (p17.2.2 k20) (y18).toInt64) = 0 then some p17.2 else none)) else some p17.2) else none))))))))
def f_case_44 (z1 : Int32) (z2 : Int32) (s : lf_S) : Option lf_S := (if z2 = 0 then (f_Lw_trial z1 (0 : Int32) s).bind (fun p1 => lf_lt p1.1 (fun y2 => (if z2 = 0 then (f_Mod_trial z1 (0 : Int32) p1.2).bind (fun p3 => lf_lt p3.1 (fun y4 => (f_Mod_thrown p3.2).bind (fun p5 => (if p5 = y2 then (if y2 = 0 then lf_ck (0 : Int32) 1 (fun k6 => (if (lg_cmp (p3.2.2 k6) (y4).toInt64) = 0 then some p3.2 else none)) else some p3.2) else none)))) else (f_Mod_trial z1 (1 : Int32) p1.2).bind (fun p7 => lf_lt p7.1 (fun y8 => (f_Mod_thrown p7.2).bind (fun p9 => (if p9 = y2 then (if y2 = 0 then lf_ck (0 : Int32) 1 (fun k10 => (if (lg_cmp (p7.2.2 k10) (y8).toInt64) = 0 then some p7.2 else none)) else some p7.2) else none))))))) else (f_Lw_trial z1 (1 : Int32) s).bind (fun p11 => lf_lt p11.1 (fun y12 => (if z2 = 0 then (f_Mod_trial z1 (0 : Int32) p11.2).bind (fun p13 => lf_lt p13.1 (fun y14 => (f_Mod_thrown p13.2).bind (fun p15 => (if p15 = y12 then (if y12 = 0 then lf_ck (0 : Int32) 1 (fun k16 => (if (lg_cmp (p13.2.2 k16) (y14).toInt64) = 0 then some p13.2 else none)) else some p13.2) else none)))) else (f_Mod_trial z1 (1 : Int32) p11.2).bind (fun p17 => lf_lt p17.1 (fun y18 => (f_Mod_thrown p17.2).bind (fun p19 => (if p19 = y12 then (if y12 = 0 then lf_ck (0 : Int32) 1 (fun k20 => (if (lg_cmp (p17.2.2 k20) (y18).toInt64) = 0 then some p17.2 else none)) else some p17.2) else none))))))))
def f_case_45 (z1 : Int32) (z2 : Int32) (s : lf_S) : Option lf_S := (if z2 = 0 then (f_Lw_span z1 (0 : Int32) s).bind (fun p1 => lf_lt p1.1 (fun y2 => (if z2 = 0 then (f_Mod_span z1 (0 : Int32) p1.2).bind (fun p3 => lf_lt p3.1 (fun y4 => (f_Mod_thrown p3.2).bind (fun p5 => (if p5 = y2 then (if y2 = 0 then lf_ck (0 : Int32) 1 (fun k6 => (if (lg_cmp (p3.2.2 k6) (y4).toInt64) = 0 then some p3.2 else none)) else some p3.2) else none)))) else (f_Mod_span z1 (1 : Int32) p1.2).bind (fun p7 => lf_lt p7.1 (fun y8 => (f_Mod_thrown p7.2).bind (fun p9 => (if p9 = y2 then (if y2 = 0 then lf_ck (0 : Int32) 1 (fun k10 => (if (lg_cmp (p7.2.2 k10) (y8).toInt64) = 0 then some p7.2 else none)) else some p7.2) else none))))))) else (f_Lw_span z1 (1 : Int32) s).bind (fun p11 => lf_lt p11.1 (fun y12 => (if z2 = 0 then (f_Mod_span z1 (0 : Int32) p11.2).bind (fun p13 => lf_lt p13.1 (fun y14 => (f_Mod_thrown p13.2).bind (fun p15 => (if p15 = y12 then (if y12 = 0 then lf_ck (0 : Int32) 1 (fun k16 => (if (lg_cmp (p13.2.2 k16) (y14).toInt64) = 0 then some p13.2 else none)) else some p13.2) else none)))) else (f_Mod_span z1 (1 : Int32) p11.2).bind (fun p17 => lf_lt p17.1 (fun y18 => (f_Mod_thrown p17.2).bind (fun p19 => (if p19 = y12 then (if y12 = 0 then lf_ck (0 : Int32) 1 (fun k20 => (if (lg_cmp (p17.2.2 k20) (y18).toInt64) = 0 then some p17.2 else none)) else some p17.2) else none))))))))
def f_case_46 (z1 : Int32) (z2 : Int32) (s : lf_S) : Option lf_S := (if z2 = 0 then (f_Lw_led z1 (0 : Int32) s).bind (fun p1 => lf_lt p1.1 (fun y2 => (if z2 = 0 then (f_Mod_led z1 (0 : Int32) p1.2).bind (fun p3 => lf_lt p3.1 (fun y4 => (f_Mod_thrown p3.2).bind (fun p5 => (if p5 = y2 then (if y2 = 0 then lf_ck (0 : Int32) 1 (fun k6 => (if (lg_cmp (p3.2.2 k6) (y4).toInt64) = 0 then some p3.2 else none)) else some p3.2) else none)))) else (f_Mod_led z1 (1 : Int32) p1.2).bind (fun p7 => lf_lt p7.1 (fun y8 => (f_Mod_thrown p7.2).bind (fun p9 => (if p9 = y2 then (if y2 = 0 then lf_ck (0 : Int32) 1 (fun k10 => (if (lg_cmp (p7.2.2 k10) (y8).toInt64) = 0 then some p7.2 else none)) else some p7.2) else none))))))) else (f_Lw_led z1 (1 : Int32) s).bind (fun p11 => lf_lt p11.1 (fun y12 => (if z2 = 0 then (f_Mod_led z1 (0 : Int32) p11.2).bind (fun p13 => lf_lt p13.1 (fun y14 => (f_Mod_thrown p13.2).bind (fun p15 => (if p15 = y12 then (if y12 = 0 then lf_ck (0 : Int32) 1 (fun k16 => (if (lg_cmp (p13.2.2 k16) (y14).toInt64) = 0 then some p13.2 else none)) else some p13.2) else none)))) else (f_Mod_led z1 (1 : Int32) p11.2).bind (fun p17 => lf_lt p17.1 (fun y18 => (f_Mod_thrown p17.2).bind (fun p19 => (if p19 = y12 then (if y12 = 0 then lf_ck (0 : Int32) 1 (fun k20 => (if (lg_cmp (p17.2.2 k20) (y18).toInt64) = 0 then some p17.2 else none)) else some p17.2) else none))))))))
def f_case_47 (z1 : Int32) (z2 : Int32) (s : lf_S) : Option lf_S := (f_Lw_log z1 z2 s).bind (fun p1 => lf_lt p1.1 (fun y2 => (f_Mod_log z1 z2 p1.2).bind (fun p3 => lf_lt p3.1 (fun y4 => (f_Mod_thrown p3.2).bind (fun p5 => (if p5 = y2 then (if y2 = 0 then lf_ck (0 : Int32) 1 (fun k6 => (if (lg_cmp (p3.2.2 k6) (y4).toInt64) = 0 then some p3.2 else none)) else some p3.2) else none))))))
def f_case_48 (z1 : Int32) (s : lf_S) : Option lf_S := (f_Main_seed z1 s).bind (fun p1 => (f_Mod_seed z1 p1.2).bind (fun p2 => (if p1.1 = p2.1 then some p2.2 else none)))
def f_case_49 (s : lf_S) : Option lf_S := (f_Main_undo s).bind (fun p1 => (f_Mod_undo p1.2).bind (fun p2 => (if p1.1 = p2.1 then some p2.2 else none)))
def f_case_50 (s : lf_S) : Option lf_S := (f_Main_image s).bind (fun p1 => (f_Mod_image p1).bind (fun p2 => some p2))
def f_case_51 (s : lf_S) : Option lf_S := (f_Main_back s).bind (fun p1 => (f_Mod_back p1.2).bind (fun p2 => (if p1.1 = p2.1 then some p2.2 else none)))
def f_case_52 (z1 : Int32) (s : lf_S) : Option lf_S := (f_Main_count z1 s).bind (fun p1 => (f_Mod_count z1 s).bind (fun p2 => (if p1 = p2.1 then some p2.2 else none)))
theorem s_Lw_holt {sc : Nat × (Nat → Int32)} {s : lf_S} {p : Int32 × lf_S} (h : f_Lw_holt s = some p) : lf_ow sc 9 j_Lw_holt [.ref 0, .ref 404] s (some (.int p.1)) p.2 := by
  unfold f_Lw_holt at h
  refine lf_wr_cases h (fun x s2 k h1 h2 h3 => ?_) (fun v s2 h1 h => ?_)
  · refine lf_inW (D := 8) (cl' := fun _ => false) (ls := [.ref 0, .ref 404, mj_U]) rfl (lf_zi (by decide +kernel)) rfl ?_
    intro d hd cl
    refine lf_blk B_Lw_holt_0 ?_
    refine lf_aload rfl ?_
    refine lf_iconst lf_c0 ?_
    refine lf_aload rfl ?_
    by_cases c : x = 0
    · subst c
      rw [if_pos rfl] at h2
      cases h2; subst h3
      refine lf_callVx (as := []) (rest := [.int (0 : Int32), .ref 404]) rfl rfl lf_a0 rfl (Nat.le_trans (by decide) hd) rfl rfl (by decide +kernel : mj_find (mj_hd j_Lw_holt) 3 0 = some 11) (s_Main_holt h1) ?_
      refine lf_blk B_Lw_holt_11 ?_
      refine lf_astx (L := [.ref 0, .ref 404, mj_X]) rfl rfl rfl ?_
      refine lf_iconst lf_c1 ?_
      exact lf_iret ⟨rfl, rfl, rfl⟩
    rw [if_neg c] at h2
    by_cases c : x = 1
    · subst c
      rw [if_pos rfl] at h2
      cases h2; subst h3
      refine lf_callVx (as := []) (rest := [.int (0 : Int32), .ref 404]) rfl rfl lf_a0 rfl (Nat.le_trans (by decide) hd) rfl rfl (by decide +kernel : mj_find (mj_hd j_Lw_holt) 3 1 = some 14) (s_Main_holt h1) ?_
      refine lf_blk B_Lw_holt_14 ?_
      refine lf_astx (L := [.ref 0, .ref 404, mj_X]) rfl rfl rfl ?_
      refine lf_iconst lf_c2 ?_
      exact lf_iret ⟨rfl, rfl, rfl⟩
    rw [if_neg c] at h2
    cases h2
  · refine lf_inW (D := 8) (cl' := fun cl => cl) (ls := [.ref 0, .ref 404, mj_U]) rfl (lf_zi (by decide +kernel)) rfl ?_
    intro d hd cl
    refine lf_blk B_Lw_holt_0 ?_
    refine lf_aload rfl ?_
    refine lf_iconst lf_c0 ?_
    refine lf_aload rfl ?_
    refine lf_callVni (as := []) (rest := [.int (0 : Int32), .ref 404]) rfl rfl lf_a0 rfl (Nat.le_trans (by decide) hd) rfl rfl (s_Main_holt h1) ?_
    refine lf_i2l ?_
    refine lf_last h ?_
    intro s2 h
    refine lf_goto ?_
    refine lf_blk B_Lw_holt_17 ?_
    refine lf_iconst lf_c0 ?_
    cases h
    exact lf_iret ⟨rfl, rfl, rfl⟩
theorem s_Lw_law {sc : Nat × (Nat → Int32)} {s : lf_S} {p : Int32 × lf_S} (h : f_Lw_law s = some p) : lf_ow sc 72 j_Lw_law [.ref 0, .ref 404] s (some (.int p.1)) p.2 := by
  unfold f_Lw_law at h
  refine lf_wr_cases h (fun x s2 k h1 h2 h3 => ?_) (fun v s2 h1 h => ?_)
  · refine lf_inW (D := 71) (cl' := fun _ => false) (ls := [.ref 0, .ref 404, mj_U]) rfl (lf_zi (by decide +kernel)) rfl ?_
    intro d hd cl
    refine lf_blk B_Lw_law_0 ?_
    refine lf_aload rfl ?_
    refine lf_iconst lf_c0 ?_
    refine lf_aload rfl ?_
    by_cases c : x = 0
    · subst c
      rw [if_pos rfl] at h2
      cases h2; subst h3
      refine lf_callVx (as := []) (rest := [.int (0 : Int32), .ref 404]) rfl rfl lf_a0 rfl (Nat.le_trans (by decide) hd) rfl rfl (by decide +kernel : mj_find (mj_hd j_Lw_law) 3 0 = some 11) (s_Main_law h1) ?_
      refine lf_blk B_Lw_law_11 ?_
      refine lf_astx (L := [.ref 0, .ref 404, mj_X]) rfl rfl rfl ?_
      refine lf_iconst lf_c1 ?_
      exact lf_iret ⟨rfl, rfl, rfl⟩
    rw [if_neg c] at h2
    cases h2
  · refine lf_inW (D := 71) (cl' := fun cl => cl) (ls := [.ref 0, .ref 404, mj_U]) rfl (lf_zi (by decide +kernel)) rfl ?_
    intro d hd cl
    refine lf_blk B_Lw_law_0 ?_
    refine lf_aload rfl ?_
    refine lf_iconst lf_c0 ?_
    refine lf_aload rfl ?_
    refine lf_callVni (as := []) (rest := [.int (0 : Int32), .ref 404]) rfl rfl lf_a0 rfl (Nat.le_trans (by decide) hd) rfl rfl (s_Main_law h1) ?_
    refine lf_i2l ?_
    refine lf_last h ?_
    intro s2 h
    refine lf_goto ?_
    refine lf_blk B_Lw_law_14 ?_
    refine lf_iconst lf_c0 ?_
    cases h
    exact lf_iret ⟨rfl, rfl, rfl⟩
theorem s_Lw_bed {sc : Nat × (Nat → Int32)} {x1 : Int32} {x2 : Int32} {s : lf_S} {p : Int32 × lf_S} (h : f_Lw_bed x1 x2 s = some p) : lf_ow sc 8 j_Lw_bed [.ref 0, .int x1, .int x2, .ref 404] s (some (.int p.1)) p.2 := by
  unfold f_Lw_bed at h
  refine lf_wr_cases h (fun x s2 k h1 h2 h3 => ?_) (fun v s2 h1 h => ?_)
  · refine lf_inW (D := 7) (cl' := fun _ => false) (ls := [.ref 0, .int x1, .int x2, .ref 404, mj_U]) rfl (lf_zi (by decide +kernel)) rfl ?_
    intro d hd cl
    refine lf_blk B_Lw_bed_0 ?_
    refine lf_aload rfl ?_
    refine lf_iconst lf_c0 ?_
    refine lf_aload rfl ?_
    refine lf_iload rfl ?_
    refine lf_iload rfl ?_
    by_cases c : x = 3
    · subst c
      rw [if_pos rfl] at h2
      cases h2; subst h3
      refine lf_callVx (as := [.int x1, .int x2]) (rest := [.int (0 : Int32), .ref 404]) rfl rfl lf_a0 rfl (Nat.le_trans (by decide) hd) rfl rfl (by decide +kernel : mj_find (mj_hd j_Lw_bed) 5 3 = some 13) (s_Main_bed h1) ?_
      refine lf_blk B_Lw_bed_13 ?_
      refine lf_astx (L := [.ref 0, .int x1, .int x2, .ref 404, mj_X]) rfl rfl rfl ?_
      refine lf_iconst lf_c1 ?_
      exact lf_iret ⟨rfl, rfl, rfl⟩
    rw [if_neg c] at h2
    by_cases c : x = 2
    · subst c
      rw [if_pos rfl] at h2
      cases h2; subst h3
      refine lf_callVx (as := [.int x1, .int x2]) (rest := [.int (0 : Int32), .ref 404]) rfl rfl lf_a0 rfl (Nat.le_trans (by decide) hd) rfl rfl (by decide +kernel : mj_find (mj_hd j_Lw_bed) 5 2 = some 17) (s_Main_bed h1) ?_
      refine lf_blk B_Lw_bed_17 ?_
      refine lf_astx (L := [.ref 0, .int x1, .int x2, .ref 404, mj_X]) rfl rfl rfl ?_
      refine lf_iconst lf_c2 ?_
      exact lf_iret ⟨rfl, rfl, rfl⟩
    rw [if_neg c] at h2
    cases h2
  · refine lf_inW (D := 7) (cl' := fun cl => cl) (ls := [.ref 0, .int x1, .int x2, .ref 404, mj_U]) rfl (lf_zi (by decide +kernel)) rfl ?_
    intro d hd cl
    refine lf_blk B_Lw_bed_0 ?_
    refine lf_aload rfl ?_
    refine lf_iconst lf_c0 ?_
    refine lf_aload rfl ?_
    refine lf_iload rfl ?_
    refine lf_iload rfl ?_
    refine lf_callVni (as := [.int x1, .int x2]) (rest := [.int (0 : Int32), .ref 404]) rfl rfl lf_a0 rfl (Nat.le_trans (by decide) hd) rfl rfl (s_Main_bed h1) ?_
    refine lf_i2l ?_
    refine lf_last h ?_
    intro s2 h
    refine lf_goto ?_
    refine lf_blk B_Lw_bed_21 ?_
    refine lf_iconst lf_c0 ?_
    cases h
    exact lf_iret ⟨rfl, rfl, rfl⟩
theorem s_Lw_basket {sc : Nat × (Nat → Int32)} {x1 : Int32} {x2 : Int32} {s : lf_S} {p : Int32 × lf_S} (h : f_Lw_basket x1 x2 s = some p) : lf_ow sc 6 j_Lw_basket [.ref 0, .int x1, .int x2, .ref 404] s (some (.int p.1)) p.2 := by
  unfold f_Lw_basket at h
  refine lf_wr_cases h (fun x s2 k h1 h2 h3 => ?_) (fun v s2 h1 h => ?_)
  · refine lf_inW (D := 5) (cl' := fun _ => false) (ls := [.ref 0, .int x1, .int x2, .ref 404, mj_U]) rfl (lf_zi (by decide +kernel)) rfl ?_
    intro d hd cl
    refine lf_blk B_Lw_basket_0 ?_
    refine lf_aload rfl ?_
    refine lf_iconst lf_c0 ?_
    refine lf_aload rfl ?_
    refine lf_iload rfl ?_
    refine lf_iload rfl ?_
    by_cases c : x = 3
    · subst c
      rw [if_pos rfl] at h2
      cases h2; subst h3
      refine lf_callVx (as := [.int x1, .int x2]) (rest := [.int (0 : Int32), .ref 404]) rfl rfl lf_a0 rfl (Nat.le_trans (by decide) hd) rfl rfl (by decide +kernel : mj_find (mj_hd j_Lw_basket) 5 3 = some 13) (s_Main_basket h1) ?_
      refine lf_blk B_Lw_basket_13 ?_
      refine lf_astx (L := [.ref 0, .int x1, .int x2, .ref 404, mj_X]) rfl rfl rfl ?_
      refine lf_iconst lf_c1 ?_
      exact lf_iret ⟨rfl, rfl, rfl⟩
    rw [if_neg c] at h2
    by_cases c : x = 2
    · subst c
      rw [if_pos rfl] at h2
      cases h2; subst h3
      refine lf_callVx (as := [.int x1, .int x2]) (rest := [.int (0 : Int32), .ref 404]) rfl rfl lf_a0 rfl (Nat.le_trans (by decide) hd) rfl rfl (by decide +kernel : mj_find (mj_hd j_Lw_basket) 5 2 = some 17) (s_Main_basket h1) ?_
      refine lf_blk B_Lw_basket_17 ?_
      refine lf_astx (L := [.ref 0, .int x1, .int x2, .ref 404, mj_X]) rfl rfl rfl ?_
      refine lf_iconst lf_c2 ?_
      exact lf_iret ⟨rfl, rfl, rfl⟩
    rw [if_neg c] at h2
    cases h2
  · refine lf_inW (D := 5) (cl' := fun cl => cl) (ls := [.ref 0, .int x1, .int x2, .ref 404, mj_U]) rfl (lf_zi (by decide +kernel)) rfl ?_
    intro d hd cl
    refine lf_blk B_Lw_basket_0 ?_
    refine lf_aload rfl ?_
    refine lf_iconst lf_c0 ?_
    refine lf_aload rfl ?_
    refine lf_iload rfl ?_
    refine lf_iload rfl ?_
    refine lf_callVni (as := [.int x1, .int x2]) (rest := [.int (0 : Int32), .ref 404]) rfl rfl lf_a0 rfl (Nat.le_trans (by decide) hd) rfl rfl (s_Main_basket h1) ?_
    refine lf_i2l ?_
    refine lf_last h ?_
    intro s2 h
    refine lf_goto ?_
    refine lf_blk B_Lw_basket_21 ?_
    refine lf_iconst lf_c0 ?_
    cases h
    exact lf_iret ⟨rfl, rfl, rfl⟩
theorem s_Lw_run {sc : Nat × (Nat → Int32)} {x1 : Int32} {x2 : Int32} {s : lf_S} {p : Int32 × lf_S} (h : f_Lw_run x1 x2 s = some p) : lf_ow sc 4 j_Lw_run [.ref 0, .int x1, .int x2, .ref 404] s (some (.int p.1)) p.2 := by
  unfold f_Lw_run at h
  refine lf_wr_cases h (fun x s2 k h1 h2 h3 => ?_) (fun v s2 h1 h => ?_)
  · refine lf_inW (D := 3) (cl' := fun _ => false) (ls := [.ref 0, .int x1, .int x2, .ref 404, mj_U]) rfl (lf_zi (by decide +kernel)) rfl ?_
    intro d hd cl
    refine lf_blk B_Lw_run_0 ?_
    refine lf_aload rfl ?_
    refine lf_iconst lf_c0 ?_
    refine lf_aload rfl ?_
    refine lf_iload rfl ?_
    refine lf_iload rfl ?_
    by_cases c : x = 3
    · subst c
      rw [if_pos rfl] at h2
      cases h2; subst h3
      refine lf_callVx (as := [.int x1, .int x2]) (rest := [.int (0 : Int32), .ref 404]) rfl rfl lf_a0 rfl (Nat.le_trans (by decide) hd) rfl rfl (by decide +kernel : mj_find (mj_hd j_Lw_run) 5 3 = some 13) (s_Main_run h1) ?_
      refine lf_blk B_Lw_run_13 ?_
      refine lf_astx (L := [.ref 0, .int x1, .int x2, .ref 404, mj_X]) rfl rfl rfl ?_
      refine lf_iconst lf_c1 ?_
      exact lf_iret ⟨rfl, rfl, rfl⟩
    rw [if_neg c] at h2
    cases h2
  · refine lf_inW (D := 3) (cl' := fun cl => cl) (ls := [.ref 0, .int x1, .int x2, .ref 404, mj_U]) rfl (lf_zi (by decide +kernel)) rfl ?_
    intro d hd cl
    refine lf_blk B_Lw_run_0 ?_
    refine lf_aload rfl ?_
    refine lf_iconst lf_c0 ?_
    refine lf_aload rfl ?_
    refine lf_iload rfl ?_
    refine lf_iload rfl ?_
    refine lf_callVni (as := [.int x1, .int x2]) (rest := [.int (0 : Int32), .ref 404]) rfl rfl lf_a0 rfl (Nat.le_trans (by decide) hd) rfl rfl (s_Main_run h1) ?_
    refine lf_i2l ?_
    refine lf_last h ?_
    intro s2 h
    refine lf_goto ?_
    refine lf_blk B_Lw_run_17 ?_
    refine lf_iconst lf_c0 ?_
    cases h
    exact lf_iret ⟨rfl, rfl, rfl⟩
theorem s_Lw_over {sc : Nat × (Nat → Int32)} {x1 : Int32} {x2 : Int32} {x3 : Int32} {s : lf_S} {p : Int32 × lf_S} (h : f_Lw_over x1 x2 x3 s = some p) : lf_ow sc 4 j_Lw_over [.ref 0, .int x1, .int x2, .int x3, .ref 404] s (some (.int p.1)) p.2 := by
  unfold f_Lw_over at h
  refine lf_wr_cases h (fun x s2 k h1 h2 h3 => ?_) (fun v s2 h1 h => ?_)
  · refine lf_inW (D := 3) (cl' := fun _ => false) (ls := [.ref 0, .int x1, .int x2, .int x3, .ref 404, mj_U]) rfl (lf_zi (by decide +kernel)) rfl ?_
    intro d hd cl
    refine lf_blk B_Lw_over_0 ?_
    refine lf_aload rfl ?_
    refine lf_iconst lf_c0 ?_
    refine lf_aload rfl ?_
    refine lf_iload rfl ?_
    refine lf_iload rfl ?_
    refine lf_iload rfl ?_
    by_cases c : x = 3
    · subst c
      rw [if_pos rfl] at h2
      cases h2; subst h3
      refine lf_callVx (as := [.int x1, .int x2, .int x3]) (rest := [.int (0 : Int32), .ref 404]) rfl rfl lf_a0 rfl (Nat.le_trans (by decide) hd) rfl rfl (by decide +kernel : mj_find (mj_hd j_Lw_over) 7 3 = some 22) (s_Main_over h1) ?_
      refine lf_blk B_Lw_over_22 ?_
      refine lf_astx (L := [.ref 0, .int x1, .int x2, .int x3, .ref 404, mj_X]) rfl rfl rfl ?_
      refine lf_iconst lf_c1 ?_
      exact lf_iret ⟨rfl, rfl, rfl⟩
    rw [if_neg c] at h2
    by_cases c : x = 0
    · subst c
      rw [if_pos rfl] at h2
      cases h2; subst h3
      refine lf_callVx (as := [.int x1, .int x2, .int x3]) (rest := [.int (0 : Int32), .ref 404]) rfl rfl lf_a0 rfl (Nat.le_trans (by decide) hd) rfl rfl (by decide +kernel : mj_find (mj_hd j_Lw_over) 7 0 = some 26) (s_Main_over h1) ?_
      refine lf_blk B_Lw_over_26 ?_
      refine lf_astx (L := [.ref 0, .int x1, .int x2, .int x3, .ref 404, mj_X]) rfl rfl rfl ?_
      refine lf_iconst lf_c2 ?_
      exact lf_iret ⟨rfl, rfl, rfl⟩
    rw [if_neg c] at h2
    cases h2
  · refine lf_inW (D := 3) (cl' := fun cl => cl) (ls := [.ref 0, .int x1, .int x2, .int x3, .ref 404, mj_U]) rfl (lf_zi (by decide +kernel)) rfl ?_
    intro d hd cl
    refine lf_blk B_Lw_over_0 ?_
    refine lf_aload rfl ?_
    refine lf_iconst lf_c0 ?_
    refine lf_aload rfl ?_
    refine lf_iload rfl ?_
    refine lf_iload rfl ?_
    refine lf_iload rfl ?_
    refine lf_callVnb (as := [.int x1, .int x2, .int x3]) (rest := [.int (0 : Int32), .ref 404]) rfl rfl lf_a0 rfl (Nat.le_trans (by decide) hd) rfl rfl (s_Main_over h1) ?_
    refine lf_ifb_eq h (fun h => ?_) (fun h => ?_)
    · refine lf_blk B_Lw_over_17 ?_
      refine lf_lconst (x := (0 : Int64)) (by decide +kernel) ?_
      refine lf_end ?_
      refine lf_blk B_Lw_over_18 ?_
      refine lf_last h ?_
      intro s2 h
      refine lf_goto ?_
      refine lf_blk B_Lw_over_30 ?_
      refine lf_iconst lf_c0 ?_
      cases h
      exact lf_iret ⟨rfl, rfl, rfl⟩
    · refine lf_lconst (x := (1 : Int64)) (by decide +kernel) ?_
      refine lf_goto ?_
      refine lf_blk B_Lw_over_18 ?_
      refine lf_last h ?_
      intro s4 h
      refine lf_goto ?_
      refine lf_blk B_Lw_over_30 ?_
      refine lf_iconst lf_c0 ?_
      cases h
      exact lf_iret ⟨rfl, rfl, rfl⟩
theorem s_Lw_sound {sc : Nat × (Nat → Int32)} {x1 : Int32} {s : lf_S} {p : Int32 × lf_S} (h : f_Lw_sound x1 s = some p) : lf_ow sc 5 j_Lw_sound [.ref 0, .int x1, .ref 404] s (some (.int p.1)) p.2 := by
  unfold f_Lw_sound at h
  refine lf_wr_cases h (fun x s2 k h1 h2 h3 => ?_) (fun v s2 h1 h => ?_)
  · refine lf_inW (D := 4) (cl' := fun _ => false) (ls := [.ref 0, .int x1, .ref 404, mj_U]) rfl (lf_zi (by decide +kernel)) rfl ?_
    intro d hd cl
    refine lf_blk B_Lw_sound_0 ?_
    refine lf_aload rfl ?_
    refine lf_iconst lf_c0 ?_
    refine lf_aload rfl ?_
    refine lf_iload rfl ?_
    by_cases c : x = 3
    · subst c
      rw [if_pos rfl] at h2
      cases h2; subst h3
      refine lf_callVx (as := [.int x1]) (rest := [.int (0 : Int32), .ref 404]) rfl rfl lf_a0 rfl (Nat.le_trans (by decide) hd) rfl rfl (by decide +kernel : mj_find (mj_hd j_Lw_sound) 4 3 = some 19) (s_Main_sound h1) ?_
      refine lf_blk B_Lw_sound_19 ?_
      refine lf_astx (L := [.ref 0, .int x1, .ref 404, mj_X]) rfl rfl rfl ?_
      refine lf_iconst lf_c1 ?_
      exact lf_iret ⟨rfl, rfl, rfl⟩
    rw [if_neg c] at h2
    cases h2
  · refine lf_inW (D := 4) (cl' := fun cl => cl) (ls := [.ref 0, .int x1, .ref 404, mj_U]) rfl (lf_zi (by decide +kernel)) rfl ?_
    intro d hd cl
    refine lf_blk B_Lw_sound_0 ?_
    refine lf_aload rfl ?_
    refine lf_iconst lf_c0 ?_
    refine lf_aload rfl ?_
    refine lf_iload rfl ?_
    refine lf_callVnb (as := [.int x1]) (rest := [.int (0 : Int32), .ref 404]) rfl rfl lf_a0 rfl (Nat.le_trans (by decide) hd) rfl rfl (s_Main_sound h1) ?_
    refine lf_ifb_eq h (fun h => ?_) (fun h => ?_)
    · refine lf_blk B_Lw_sound_14 ?_
      refine lf_lconst (x := (0 : Int64)) (by decide +kernel) ?_
      refine lf_end ?_
      refine lf_blk B_Lw_sound_15 ?_
      refine lf_last h ?_
      intro s2 h
      refine lf_goto ?_
      refine lf_blk B_Lw_sound_22 ?_
      refine lf_iconst lf_c0 ?_
      cases h
      exact lf_iret ⟨rfl, rfl, rfl⟩
    · refine lf_lconst (x := (1 : Int64)) (by decide +kernel) ?_
      refine lf_goto ?_
      refine lf_blk B_Lw_sound_15 ?_
      refine lf_last h ?_
      intro s4 h
      refine lf_goto ?_
      refine lf_blk B_Lw_sound_22 ?_
      refine lf_iconst lf_c0 ?_
      cases h
      exact lf_iret ⟨rfl, rfl, rfl⟩
theorem s_Lw_store {sc : Nat × (Nat → Int32)} {x1 : Int32} {s : lf_S} {p : Int32 × lf_S} (h : f_Lw_store x1 s = some p) : lf_ow sc 4 j_Lw_store [.ref 0, .int x1, .ref 404] s (some (.int p.1)) p.2 := by
  unfold f_Lw_store at h
  refine lf_wr_cases h (fun x s2 k h1 h2 h3 => ?_) (fun v s2 h1 h => ?_)
  · refine lf_inW (D := 3) (cl' := fun _ => false) (ls := [.ref 0, .int x1, .ref 404, mj_U]) rfl (lf_zi (by decide +kernel)) rfl ?_
    intro d hd cl
    refine lf_blk B_Lw_store_0 ?_
    refine lf_aload rfl ?_
    refine lf_iconst lf_c0 ?_
    refine lf_aload rfl ?_
    refine lf_iload rfl ?_
    by_cases c : x = 3
    · subst c
      rw [if_pos rfl] at h2
      cases h2; subst h3
      refine lf_callVx (as := [.int x1]) (rest := [.int (0 : Int32), .ref 404]) rfl rfl lf_a0 rfl (Nat.le_trans (by decide) hd) rfl rfl (by decide +kernel : mj_find (mj_hd j_Lw_store) 4 3 = some 12) (s_Main_store h1) ?_
      refine lf_blk B_Lw_store_12 ?_
      refine lf_astx (L := [.ref 0, .int x1, .ref 404, mj_X]) rfl rfl rfl ?_
      refine lf_iconst lf_c1 ?_
      exact lf_iret ⟨rfl, rfl, rfl⟩
    rw [if_neg c] at h2
    cases h2
  · refine lf_inW (D := 3) (cl' := fun cl => cl) (ls := [.ref 0, .int x1, .ref 404, mj_U]) rfl (lf_zi (by decide +kernel)) rfl ?_
    intro d hd cl
    refine lf_blk B_Lw_store_0 ?_
    refine lf_aload rfl ?_
    refine lf_iconst lf_c0 ?_
    refine lf_aload rfl ?_
    refine lf_iload rfl ?_
    refine lf_callVni (as := [.int x1]) (rest := [.int (0 : Int32), .ref 404]) rfl rfl lf_a0 rfl (Nat.le_trans (by decide) hd) rfl rfl (s_Main_store h1) ?_
    refine lf_i2l ?_
    refine lf_last h ?_
    intro s2 h
    refine lf_goto ?_
    refine lf_blk B_Lw_store_15 ?_
    refine lf_iconst lf_c0 ?_
    cases h
    exact lf_iret ⟨rfl, rfl, rfl⟩
theorem s_Lw_hand {sc : Nat × (Nat → Int32)} {x1 : Int32} {x2 : Int32} {s : lf_S} {p : Int32 × lf_S} (h : f_Lw_hand x1 x2 s = some p) : lf_ow sc 4 j_Lw_hand [.ref 0, .int x1, .int x2, .ref 404] s (some (.int p.1)) p.2 := by
  unfold f_Lw_hand at h
  refine lf_wr_cases h (fun x s2 k h1 h2 h3 => ?_) (fun v s2 h1 h => ?_)
  · refine lf_inW (D := 3) (cl' := fun _ => false) (ls := [.ref 0, .int x1, .int x2, .ref 404, mj_U]) rfl (lf_zi (by decide +kernel)) rfl ?_
    intro d hd cl
    refine lf_blk B_Lw_hand_0 ?_
    refine lf_aload rfl ?_
    refine lf_iconst lf_c0 ?_
    refine lf_aload rfl ?_
    refine lf_iload rfl ?_
    refine lf_iload rfl ?_
    by_cases c : x = 3
    · subst c
      rw [if_pos rfl] at h2
      cases h2; subst h3
      refine lf_callVx (as := [.int x1, .int x2]) (rest := [.int (0 : Int32), .ref 404]) rfl rfl lf_a0 rfl (Nat.le_trans (by decide) hd) rfl rfl (by decide +kernel : mj_find (mj_hd j_Lw_hand) 5 3 = some 13) (s_Main_hand h1) ?_
      refine lf_blk B_Lw_hand_13 ?_
      refine lf_astx (L := [.ref 0, .int x1, .int x2, .ref 404, mj_X]) rfl rfl rfl ?_
      refine lf_iconst lf_c1 ?_
      exact lf_iret ⟨rfl, rfl, rfl⟩
    rw [if_neg c] at h2
    cases h2
  · refine lf_inW (D := 3) (cl' := fun cl => cl) (ls := [.ref 0, .int x1, .int x2, .ref 404, mj_U]) rfl (lf_zi (by decide +kernel)) rfl ?_
    intro d hd cl
    refine lf_blk B_Lw_hand_0 ?_
    refine lf_aload rfl ?_
    refine lf_iconst lf_c0 ?_
    refine lf_aload rfl ?_
    refine lf_iload rfl ?_
    refine lf_iload rfl ?_
    refine lf_callVni (as := [.int x1, .int x2]) (rest := [.int (0 : Int32), .ref 404]) rfl rfl lf_a0 rfl (Nat.le_trans (by decide) hd) rfl rfl (s_Main_hand h1) ?_
    refine lf_i2l ?_
    refine lf_last h ?_
    intro s2 h
    refine lf_goto ?_
    refine lf_blk B_Lw_hand_17 ?_
    refine lf_iconst lf_c0 ?_
    cases h
    exact lf_iret ⟨rfl, rfl, rfl⟩
theorem s_Lw_order {sc : Nat × (Nat → Int32)} {x1 : Int32} {x2 : Int32} {s : lf_S} {p : Int32 × lf_S} (h : f_Lw_order x1 x2 s = some p) : lf_ow sc 4 j_Lw_order [.ref 0, .int x1, .int x2, .ref 404] s (some (.int p.1)) p.2 := by
  unfold f_Lw_order at h
  refine lf_wr_cases h (fun x s2 k h1 h2 h3 => ?_) (fun v s2 h1 h => ?_)
  · refine lf_inW (D := 3) (cl' := fun _ => false) (ls := [.ref 0, .int x1, .int x2, .ref 404, mj_U]) rfl (lf_zi (by decide +kernel)) rfl ?_
    intro d hd cl
    refine lf_blk B_Lw_order_0 ?_
    refine lf_aload rfl ?_
    refine lf_iconst lf_c0 ?_
    refine lf_aload rfl ?_
    refine lf_iload rfl ?_
    refine lf_iload rfl ?_
    by_cases c : x = 3
    · subst c
      rw [if_pos rfl] at h2
      cases h2; subst h3
      refine lf_callVx (as := [.int x1, .int x2]) (rest := [.int (0 : Int32), .ref 404]) rfl rfl lf_a0 rfl (Nat.le_trans (by decide) hd) rfl rfl (by decide +kernel : mj_find (mj_hd j_Lw_order) 5 3 = some 13) (s_Main_order h1) ?_
      refine lf_blk B_Lw_order_13 ?_
      refine lf_astx (L := [.ref 0, .int x1, .int x2, .ref 404, mj_X]) rfl rfl rfl ?_
      refine lf_iconst lf_c1 ?_
      exact lf_iret ⟨rfl, rfl, rfl⟩
    rw [if_neg c] at h2
    by_cases c : x = 2
    · subst c
      rw [if_pos rfl] at h2
      cases h2; subst h3
      refine lf_callVx (as := [.int x1, .int x2]) (rest := [.int (0 : Int32), .ref 404]) rfl rfl lf_a0 rfl (Nat.le_trans (by decide) hd) rfl rfl (by decide +kernel : mj_find (mj_hd j_Lw_order) 5 2 = some 17) (s_Main_order h1) ?_
      refine lf_blk B_Lw_order_17 ?_
      refine lf_astx (L := [.ref 0, .int x1, .int x2, .ref 404, mj_X]) rfl rfl rfl ?_
      refine lf_iconst lf_c2 ?_
      exact lf_iret ⟨rfl, rfl, rfl⟩
    rw [if_neg c] at h2
    cases h2
  · refine lf_inW (D := 3) (cl' := fun cl => cl) (ls := [.ref 0, .int x1, .int x2, .ref 404, mj_U]) rfl (lf_zi (by decide +kernel)) rfl ?_
    intro d hd cl
    refine lf_blk B_Lw_order_0 ?_
    refine lf_aload rfl ?_
    refine lf_iconst lf_c0 ?_
    refine lf_aload rfl ?_
    refine lf_iload rfl ?_
    refine lf_iload rfl ?_
    refine lf_callVni (as := [.int x1, .int x2]) (rest := [.int (0 : Int32), .ref 404]) rfl rfl lf_a0 rfl (Nat.le_trans (by decide) hd) rfl rfl (s_Main_order h1) ?_
    refine lf_i2l ?_
    refine lf_last h ?_
    intro s2 h
    refine lf_goto ?_
    refine lf_blk B_Lw_order_21 ?_
    refine lf_iconst lf_c0 ?_
    cases h
    exact lf_iret ⟨rfl, rfl, rfl⟩
theorem s_Lw_years {sc : Nat × (Nat → Int32)} {x1 : Int32} {s : lf_S} {p : Int32 × lf_S} (h : f_Lw_years x1 s = some p) : lf_ow sc 8 j_Lw_years [.ref 0, .int x1, .ref 404] s (some (.int p.1)) p.2 := by
  unfold f_Lw_years at h
  refine lf_wr_cases h (fun x s2 k h1 h2 h3 => ?_) (fun v s2 h1 h => ?_)
  · refine lf_inW (D := 7) (cl' := fun _ => false) (ls := [.ref 0, .int x1, .ref 404, mj_U]) rfl (lf_zi (by decide +kernel)) rfl ?_
    intro d hd cl
    refine lf_blk B_Lw_years_0 ?_
    refine lf_aload rfl ?_
    refine lf_iconst lf_c0 ?_
    refine lf_aload rfl ?_
    refine lf_iload rfl ?_
    by_cases c : x = 0
    · subst c
      rw [if_pos rfl] at h2
      cases h2; subst h3
      refine lf_callVx (as := [.int x1]) (rest := [.int (0 : Int32), .ref 404]) rfl rfl lf_a0 rfl (Nat.le_trans (by decide) hd) rfl rfl (by decide +kernel : mj_find (mj_hd j_Lw_years) 4 0 = some 12) (s_Main_years h1) ?_
      refine lf_blk B_Lw_years_12 ?_
      refine lf_astx (L := [.ref 0, .int x1, .ref 404, mj_X]) rfl rfl rfl ?_
      refine lf_iconst lf_c1 ?_
      exact lf_iret ⟨rfl, rfl, rfl⟩
    rw [if_neg c] at h2
    cases h2
  · refine lf_inW (D := 7) (cl' := fun cl => cl) (ls := [.ref 0, .int x1, .ref 404, mj_U]) rfl (lf_zi (by decide +kernel)) rfl ?_
    intro d hd cl
    refine lf_blk B_Lw_years_0 ?_
    refine lf_aload rfl ?_
    refine lf_iconst lf_c0 ?_
    refine lf_aload rfl ?_
    refine lf_iload rfl ?_
    refine lf_callVni (as := [.int x1]) (rest := [.int (0 : Int32), .ref 404]) rfl rfl lf_a0 rfl (Nat.le_trans (by decide) hd) rfl rfl (s_Main_years h1) ?_
    refine lf_i2l ?_
    refine lf_last h ?_
    intro s2 h
    refine lf_goto ?_
    refine lf_blk B_Lw_years_15 ?_
    refine lf_iconst lf_c0 ?_
    cases h
    exact lf_iret ⟨rfl, rfl, rfl⟩
theorem s_Lw_cut {sc : Nat × (Nat → Int32)} {x1 : Int32} {s : lf_S} {p : Int32 × lf_S} (h : f_Lw_cut x1 s = some p) : lf_ow sc 8 j_Lw_cut [.ref 0, .int x1, .ref 404] s (some (.int p.1)) p.2 := by
  unfold f_Lw_cut at h
  refine lf_wr_cases h (fun x s2 k h1 h2 h3 => ?_) (fun v s2 h1 h => ?_)
  · refine lf_inW (D := 7) (cl' := fun _ => false) (ls := [.ref 0, .int x1, .ref 404, mj_U]) rfl (lf_zi (by decide +kernel)) rfl ?_
    intro d hd cl
    refine lf_blk B_Lw_cut_0 ?_
    refine lf_aload rfl ?_
    refine lf_iconst lf_c0 ?_
    refine lf_aload rfl ?_
    refine lf_iload rfl ?_
    by_cases c : x = 3
    · subst c
      rw [if_pos rfl] at h2
      cases h2; subst h3
      refine lf_callVx (as := [.int x1]) (rest := [.int (0 : Int32), .ref 404]) rfl rfl lf_a0 rfl (Nat.le_trans (by decide) hd) rfl rfl (by decide +kernel : mj_find (mj_hd j_Lw_cut) 4 3 = some 12) (s_Main_cut h1) ?_
      refine lf_blk B_Lw_cut_12 ?_
      refine lf_astx (L := [.ref 0, .int x1, .ref 404, mj_X]) rfl rfl rfl ?_
      refine lf_iconst lf_c1 ?_
      exact lf_iret ⟨rfl, rfl, rfl⟩
    rw [if_neg c] at h2
    by_cases c : x = 4
    · subst c
      rw [if_pos rfl] at h2
      cases h2; subst h3
      refine lf_callVx (as := [.int x1]) (rest := [.int (0 : Int32), .ref 404]) rfl rfl lf_a0 rfl (Nat.le_trans (by decide) hd) rfl rfl (by decide +kernel : mj_find (mj_hd j_Lw_cut) 4 4 = some 15) (s_Main_cut h1) ?_
      refine lf_blk B_Lw_cut_15 ?_
      refine lf_astx (L := [.ref 0, .int x1, .ref 404, mj_X]) rfl rfl rfl ?_
      refine lf_iconst lf_c2 ?_
      exact lf_iret ⟨rfl, rfl, rfl⟩
    rw [if_neg c] at h2
    cases h2
  · refine lf_inW (D := 7) (cl' := fun cl => cl) (ls := [.ref 0, .int x1, .ref 404, mj_U]) rfl (lf_zi (by decide +kernel)) rfl ?_
    intro d hd cl
    refine lf_blk B_Lw_cut_0 ?_
    refine lf_aload rfl ?_
    refine lf_iconst lf_c0 ?_
    refine lf_aload rfl ?_
    refine lf_iload rfl ?_
    refine lf_callVni (as := [.int x1]) (rest := [.int (0 : Int32), .ref 404]) rfl rfl lf_a0 rfl (Nat.le_trans (by decide) hd) rfl rfl (s_Main_cut h1) ?_
    refine lf_i2l ?_
    refine lf_last h ?_
    intro s2 h
    refine lf_goto ?_
    refine lf_blk B_Lw_cut_18 ?_
    refine lf_iconst lf_c0 ?_
    cases h
    exact lf_iret ⟨rfl, rfl, rfl⟩
theorem s_Lw_buy {sc : Nat × (Nat → Int32)} {x1 : Int32} {x2 : Int32} {s : lf_S} {p : Int32 × lf_S} (h : f_Lw_buy x1 x2 s = some p) : lf_ow sc 5 j_Lw_buy [.ref 0, .int x1, .int x2, .ref 404] s (some (.int p.1)) p.2 := by
  unfold f_Lw_buy at h
  refine lf_wr_cases h (fun x s2 k h1 h2 h3 => ?_) (fun v s2 h1 h => ?_)
  · refine lf_inW (D := 4) (cl' := fun _ => false) (ls := [.ref 0, .int x1, .int x2, .ref 404, mj_U]) rfl (lf_zi (by decide +kernel)) rfl ?_
    intro d hd cl
    refine lf_blk B_Lw_buy_0 ?_
    refine lf_aload rfl ?_
    refine lf_iconst lf_c0 ?_
    refine lf_aload rfl ?_
    refine lf_iload rfl ?_
    refine lf_iload rfl ?_
    by_cases c : x = 3
    · subst c
      rw [if_pos rfl] at h2
      cases h2; subst h3
      refine lf_callVx (as := [.int x1, .int x2]) (rest := [.int (0 : Int32), .ref 404]) rfl rfl lf_a0 rfl (Nat.le_trans (by decide) hd) rfl rfl (by decide +kernel : mj_find (mj_hd j_Lw_buy) 5 3 = some 13) (s_Main_buy h1) ?_
      refine lf_blk B_Lw_buy_13 ?_
      refine lf_astx (L := [.ref 0, .int x1, .int x2, .ref 404, mj_X]) rfl rfl rfl ?_
      refine lf_iconst lf_c1 ?_
      exact lf_iret ⟨rfl, rfl, rfl⟩
    rw [if_neg c] at h2
    by_cases c : x = 0
    · subst c
      rw [if_pos rfl] at h2
      cases h2; subst h3
      refine lf_callVx (as := [.int x1, .int x2]) (rest := [.int (0 : Int32), .ref 404]) rfl rfl lf_a0 rfl (Nat.le_trans (by decide) hd) rfl rfl (by decide +kernel : mj_find (mj_hd j_Lw_buy) 5 0 = some 17) (s_Main_buy h1) ?_
      refine lf_blk B_Lw_buy_17 ?_
      refine lf_astx (L := [.ref 0, .int x1, .int x2, .ref 404, mj_X]) rfl rfl rfl ?_
      refine lf_iconst lf_c2 ?_
      exact lf_iret ⟨rfl, rfl, rfl⟩
    rw [if_neg c] at h2
    by_cases c : x = 4
    · subst c
      rw [if_pos rfl] at h2
      cases h2; subst h3
      refine lf_callVx (as := [.int x1, .int x2]) (rest := [.int (0 : Int32), .ref 404]) rfl rfl lf_a0 rfl (Nat.le_trans (by decide) hd) rfl rfl (by decide +kernel : mj_find (mj_hd j_Lw_buy) 5 4 = some 21) (s_Main_buy h1) ?_
      refine lf_blk B_Lw_buy_21 ?_
      refine lf_astx (L := [.ref 0, .int x1, .int x2, .ref 404, mj_X]) rfl rfl rfl ?_
      refine lf_iconst lf_c3 ?_
      exact lf_iret ⟨rfl, rfl, rfl⟩
    rw [if_neg c] at h2
    cases h2
  · refine lf_inW (D := 4) (cl' := fun cl => cl) (ls := [.ref 0, .int x1, .int x2, .ref 404, mj_U]) rfl (lf_zi (by decide +kernel)) rfl ?_
    intro d hd cl
    refine lf_blk B_Lw_buy_0 ?_
    refine lf_aload rfl ?_
    refine lf_iconst lf_c0 ?_
    refine lf_aload rfl ?_
    refine lf_iload rfl ?_
    refine lf_iload rfl ?_
    refine lf_callVni (as := [.int x1, .int x2]) (rest := [.int (0 : Int32), .ref 404]) rfl rfl lf_a0 rfl (Nat.le_trans (by decide) hd) rfl rfl (s_Main_buy h1) ?_
    refine lf_i2l ?_
    refine lf_last h ?_
    intro s2 h
    refine lf_goto ?_
    refine lf_blk B_Lw_buy_25 ?_
    refine lf_iconst lf_c0 ?_
    cases h
    exact lf_iret ⟨rfl, rfl, rfl⟩
theorem s_Lw_sell {sc : Nat × (Nat → Int32)} {x1 : Int32} {x2 : Int32} {s : lf_S} {p : Int32 × lf_S} (h : f_Lw_sell x1 x2 s = some p) : lf_ow sc 5 j_Lw_sell [.ref 0, .int x1, .int x2, .ref 404] s (some (.int p.1)) p.2 := by
  unfold f_Lw_sell at h
  refine lf_wr_cases h (fun x s2 k h1 h2 h3 => ?_) (fun v s2 h1 h => ?_)
  · refine lf_inW (D := 4) (cl' := fun _ => false) (ls := [.ref 0, .int x1, .int x2, .ref 404, mj_U]) rfl (lf_zi (by decide +kernel)) rfl ?_
    intro d hd cl
    refine lf_blk B_Lw_sell_0 ?_
    refine lf_aload rfl ?_
    refine lf_iconst lf_c0 ?_
    refine lf_aload rfl ?_
    refine lf_iload rfl ?_
    refine lf_iload rfl ?_
    by_cases c : x = 3
    · subst c
      rw [if_pos rfl] at h2
      cases h2; subst h3
      refine lf_callVx (as := [.int x1, .int x2]) (rest := [.int (0 : Int32), .ref 404]) rfl rfl lf_a0 rfl (Nat.le_trans (by decide) hd) rfl rfl (by decide +kernel : mj_find (mj_hd j_Lw_sell) 5 3 = some 13) (s_Main_sell h1) ?_
      refine lf_blk B_Lw_sell_13 ?_
      refine lf_astx (L := [.ref 0, .int x1, .int x2, .ref 404, mj_X]) rfl rfl rfl ?_
      refine lf_iconst lf_c1 ?_
      exact lf_iret ⟨rfl, rfl, rfl⟩
    rw [if_neg c] at h2
    by_cases c : x = 0
    · subst c
      rw [if_pos rfl] at h2
      cases h2; subst h3
      refine lf_callVx (as := [.int x1, .int x2]) (rest := [.int (0 : Int32), .ref 404]) rfl rfl lf_a0 rfl (Nat.le_trans (by decide) hd) rfl rfl (by decide +kernel : mj_find (mj_hd j_Lw_sell) 5 0 = some 17) (s_Main_sell h1) ?_
      refine lf_blk B_Lw_sell_17 ?_
      refine lf_astx (L := [.ref 0, .int x1, .int x2, .ref 404, mj_X]) rfl rfl rfl ?_
      refine lf_iconst lf_c2 ?_
      exact lf_iret ⟨rfl, rfl, rfl⟩
    rw [if_neg c] at h2
    by_cases c : x = 4
    · subst c
      rw [if_pos rfl] at h2
      cases h2; subst h3
      refine lf_callVx (as := [.int x1, .int x2]) (rest := [.int (0 : Int32), .ref 404]) rfl rfl lf_a0 rfl (Nat.le_trans (by decide) hd) rfl rfl (by decide +kernel : mj_find (mj_hd j_Lw_sell) 5 4 = some 21) (s_Main_sell h1) ?_
      refine lf_blk B_Lw_sell_21 ?_
      refine lf_astx (L := [.ref 0, .int x1, .int x2, .ref 404, mj_X]) rfl rfl rfl ?_
      refine lf_iconst lf_c3 ?_
      exact lf_iret ⟨rfl, rfl, rfl⟩
    rw [if_neg c] at h2
    cases h2
  · refine lf_inW (D := 4) (cl' := fun cl => cl) (ls := [.ref 0, .int x1, .int x2, .ref 404, mj_U]) rfl (lf_zi (by decide +kernel)) rfl ?_
    intro d hd cl
    refine lf_blk B_Lw_sell_0 ?_
    refine lf_aload rfl ?_
    refine lf_iconst lf_c0 ?_
    refine lf_aload rfl ?_
    refine lf_iload rfl ?_
    refine lf_iload rfl ?_
    refine lf_callVni (as := [.int x1, .int x2]) (rest := [.int (0 : Int32), .ref 404]) rfl rfl lf_a0 rfl (Nat.le_trans (by decide) hd) rfl rfl (s_Main_sell h1) ?_
    refine lf_i2l ?_
    refine lf_last h ?_
    intro s2 h
    refine lf_goto ?_
    refine lf_blk B_Lw_sell_25 ?_
    refine lf_iconst lf_c0 ?_
    cases h
    exact lf_iret ⟨rfl, rfl, rfl⟩
theorem s_Lw_take {sc : Nat × (Nat → Int32)} {x1 : Int32} {x2 : Int32} {s : lf_S} {p : Int32 × lf_S} (h : f_Lw_take x1 x2 s = some p) : lf_ow sc 5 j_Lw_take [.ref 0, .int x1, .int x2, .ref 404] s (some (.int p.1)) p.2 := by
  unfold f_Lw_take at h
  refine lf_wr_cases h (fun x s2 k h1 h2 h3 => ?_) (fun v s2 h1 h => ?_)
  · refine lf_inW (D := 4) (cl' := fun _ => false) (ls := [.ref 0, .int x1, .int x2, .ref 404, mj_U]) rfl (lf_zi (by decide +kernel)) rfl ?_
    intro d hd cl
    refine lf_blk B_Lw_take_0 ?_
    refine lf_aload rfl ?_
    refine lf_iconst lf_c0 ?_
    refine lf_aload rfl ?_
    refine lf_iload rfl ?_
    refine lf_iload rfl ?_
    by_cases c : x = 3
    · subst c
      rw [if_pos rfl] at h2
      cases h2; subst h3
      refine lf_callVx (as := [.int x1, .int x2]) (rest := [.int (0 : Int32), .ref 404]) rfl rfl lf_a0 rfl (Nat.le_trans (by decide) hd) rfl rfl (by decide +kernel : mj_find (mj_hd j_Lw_take) 5 3 = some 13) (s_Main_take h1) ?_
      refine lf_blk B_Lw_take_13 ?_
      refine lf_astx (L := [.ref 0, .int x1, .int x2, .ref 404, mj_X]) rfl rfl rfl ?_
      refine lf_iconst lf_c1 ?_
      exact lf_iret ⟨rfl, rfl, rfl⟩
    rw [if_neg c] at h2
    by_cases c : x = 0
    · subst c
      rw [if_pos rfl] at h2
      cases h2; subst h3
      refine lf_callVx (as := [.int x1, .int x2]) (rest := [.int (0 : Int32), .ref 404]) rfl rfl lf_a0 rfl (Nat.le_trans (by decide) hd) rfl rfl (by decide +kernel : mj_find (mj_hd j_Lw_take) 5 0 = some 17) (s_Main_take h1) ?_
      refine lf_blk B_Lw_take_17 ?_
      refine lf_astx (L := [.ref 0, .int x1, .int x2, .ref 404, mj_X]) rfl rfl rfl ?_
      refine lf_iconst lf_c2 ?_
      exact lf_iret ⟨rfl, rfl, rfl⟩
    rw [if_neg c] at h2
    by_cases c : x = 4
    · subst c
      rw [if_pos rfl] at h2
      cases h2; subst h3
      refine lf_callVx (as := [.int x1, .int x2]) (rest := [.int (0 : Int32), .ref 404]) rfl rfl lf_a0 rfl (Nat.le_trans (by decide) hd) rfl rfl (by decide +kernel : mj_find (mj_hd j_Lw_take) 5 4 = some 21) (s_Main_take h1) ?_
      refine lf_blk B_Lw_take_21 ?_
      refine lf_astx (L := [.ref 0, .int x1, .int x2, .ref 404, mj_X]) rfl rfl rfl ?_
      refine lf_iconst lf_c3 ?_
      exact lf_iret ⟨rfl, rfl, rfl⟩
    rw [if_neg c] at h2
    cases h2
  · refine lf_inW (D := 4) (cl' := fun cl => cl) (ls := [.ref 0, .int x1, .int x2, .ref 404, mj_U]) rfl (lf_zi (by decide +kernel)) rfl ?_
    intro d hd cl
    refine lf_blk B_Lw_take_0 ?_
    refine lf_aload rfl ?_
    refine lf_iconst lf_c0 ?_
    refine lf_aload rfl ?_
    refine lf_iload rfl ?_
    refine lf_iload rfl ?_
    refine lf_callVni (as := [.int x1, .int x2]) (rest := [.int (0 : Int32), .ref 404]) rfl rfl lf_a0 rfl (Nat.le_trans (by decide) hd) rfl rfl (s_Main_take h1) ?_
    refine lf_i2l ?_
    refine lf_last h ?_
    intro s2 h
    refine lf_goto ?_
    refine lf_blk B_Lw_take_25 ?_
    refine lf_iconst lf_c0 ?_
    cases h
    exact lf_iret ⟨rfl, rfl, rfl⟩
theorem s_Lw_drop {sc : Nat × (Nat → Int32)} {x1 : Int32} {s : lf_S} {p : Int32 × lf_S} (h : f_Lw_drop x1 s = some p) : lf_ow sc 5 j_Lw_drop [.ref 0, .int x1] s (some (.int p.1)) p.2 := by
  unfold f_Lw_drop at h
  refine lf_wr_cases h (fun x s2 k h1 h2 h3 => ?_) (fun v s2 h1 h => ?_)
  · refine lf_inW (D := 4) (cl' := fun _ => false) (ls := [.ref 0, .int x1, mj_U]) rfl (lf_zi (by decide +kernel)) rfl ?_
    intro d hd cl
    refine lf_blk B_Lw_drop_0 ?_
    refine lf_aload rfl ?_
    refine lf_iload rfl ?_
    by_cases c : x = 3
    · subst c
      rw [if_pos rfl] at h2
      cases h2; subst h3
      refine lf_callVx (as := [.int x1]) (rest := []) rfl rfl lf_a0 rfl (Nat.le_trans (by decide) hd) rfl rfl (by decide +kernel : mj_find (mj_hd j_Lw_drop) 2 3 = some 8) (s_Main_drop h1) ?_
      refine lf_blk B_Lw_drop_8 ?_
      refine lf_astx (L := [.ref 0, .int x1, mj_X]) rfl rfl rfl ?_
      refine lf_iconst lf_c1 ?_
      exact lf_iret ⟨rfl, rfl, rfl⟩
    rw [if_neg c] at h2
    by_cases c : x = 4
    · subst c
      rw [if_pos rfl] at h2
      cases h2; subst h3
      refine lf_callVx (as := [.int x1]) (rest := []) rfl rfl lf_a0 rfl (Nat.le_trans (by decide) hd) rfl rfl (by decide +kernel : mj_find (mj_hd j_Lw_drop) 2 4 = some 11) (s_Main_drop h1) ?_
      refine lf_blk B_Lw_drop_11 ?_
      refine lf_astx (L := [.ref 0, .int x1, mj_X]) rfl rfl rfl ?_
      refine lf_iconst lf_c2 ?_
      exact lf_iret ⟨rfl, rfl, rfl⟩
    rw [if_neg c] at h2
    cases h2
  · refine lf_inW (D := 4) (cl' := fun cl => cl) (ls := [.ref 0, .int x1, mj_U]) rfl (lf_zi (by decide +kernel)) rfl ?_
    intro d hd cl
    refine lf_blk B_Lw_drop_0 ?_
    refine lf_aload rfl ?_
    refine lf_iload rfl ?_
    refine lf_callVnu (as := [.int x1]) (rest := []) rfl rfl lf_a0 rfl (Nat.le_trans (by decide) hd) rfl rfl (s_Main_drop h1) ?_
    refine lf_goto ?_
    refine lf_blk B_Lw_drop_14 ?_
    refine lf_iconst lf_c0 ?_
    cases h
    exact lf_iret ⟨rfl, rfl, rfl⟩
theorem s_Lw_drain {sc : Nat × (Nat → Int32)} {x1 : Int32} {x2 : Int32} {s : lf_S} {p : Int32 × lf_S} (h : f_Lw_drain x1 x2 s = some p) : lf_ow sc 5 j_Lw_drain [.ref 0, .int x1, .int x2, .ref 404] s (some (.int p.1)) p.2 := by
  unfold f_Lw_drain at h
  refine lf_wr_cases h (fun x s2 k h1 h2 h3 => ?_) (fun v s2 h1 h => ?_)
  · refine lf_inW (D := 4) (cl' := fun _ => false) (ls := [.ref 0, .int x1, .int x2, .ref 404, mj_U]) rfl (lf_zi (by decide +kernel)) rfl ?_
    intro d hd cl
    refine lf_blk B_Lw_drain_0 ?_
    refine lf_aload rfl ?_
    refine lf_iconst lf_c0 ?_
    refine lf_aload rfl ?_
    refine lf_iload rfl ?_
    refine lf_iload rfl ?_
    by_cases c : x = 3
    · subst c
      rw [if_pos rfl] at h2
      cases h2; subst h3
      refine lf_callVx (as := [.int x1, .int x2]) (rest := [.int (0 : Int32), .ref 404]) rfl rfl lf_a0 rfl (Nat.le_trans (by decide) hd) rfl rfl (by decide +kernel : mj_find (mj_hd j_Lw_drain) 5 3 = some 13) (s_Main_drain h1) ?_
      refine lf_blk B_Lw_drain_13 ?_
      refine lf_astx (L := [.ref 0, .int x1, .int x2, .ref 404, mj_X]) rfl rfl rfl ?_
      refine lf_iconst lf_c1 ?_
      exact lf_iret ⟨rfl, rfl, rfl⟩
    rw [if_neg c] at h2
    by_cases c : x = 0
    · subst c
      rw [if_pos rfl] at h2
      cases h2; subst h3
      refine lf_callVx (as := [.int x1, .int x2]) (rest := [.int (0 : Int32), .ref 404]) rfl rfl lf_a0 rfl (Nat.le_trans (by decide) hd) rfl rfl (by decide +kernel : mj_find (mj_hd j_Lw_drain) 5 0 = some 17) (s_Main_drain h1) ?_
      refine lf_blk B_Lw_drain_17 ?_
      refine lf_astx (L := [.ref 0, .int x1, .int x2, .ref 404, mj_X]) rfl rfl rfl ?_
      refine lf_iconst lf_c2 ?_
      exact lf_iret ⟨rfl, rfl, rfl⟩
    rw [if_neg c] at h2
    cases h2
  · refine lf_inW (D := 4) (cl' := fun cl => cl) (ls := [.ref 0, .int x1, .int x2, .ref 404, mj_U]) rfl (lf_zi (by decide +kernel)) rfl ?_
    intro d hd cl
    refine lf_blk B_Lw_drain_0 ?_
    refine lf_aload rfl ?_
    refine lf_iconst lf_c0 ?_
    refine lf_aload rfl ?_
    refine lf_iload rfl ?_
    refine lf_iload rfl ?_
    refine lf_callVni (as := [.int x1, .int x2]) (rest := [.int (0 : Int32), .ref 404]) rfl rfl lf_a0 rfl (Nat.le_trans (by decide) hd) rfl rfl (s_Main_drain h1) ?_
    refine lf_i2l ?_
    refine lf_last h ?_
    intro s2 h
    refine lf_goto ?_
    refine lf_blk B_Lw_drain_21 ?_
    refine lf_iconst lf_c0 ?_
    cases h
    exact lf_iret ⟨rfl, rfl, rfl⟩
theorem s_Lw_hire {sc : Nat × (Nat → Int32)} {x1 : Int32} {x2 : Int32} {s : lf_S} {p : Int32 × lf_S} (h : f_Lw_hire x1 x2 s = some p) : lf_ow sc 5 j_Lw_hire [.ref 0, .int x1, .int x2, .ref 404] s (some (.int p.1)) p.2 := by
  unfold f_Lw_hire at h
  refine lf_wr_cases h (fun x s2 k h1 h2 h3 => ?_) (fun v s2 h1 h => ?_)
  · refine lf_inW (D := 4) (cl' := fun _ => false) (ls := [.ref 0, .int x1, .int x2, .ref 404, mj_U]) rfl (lf_zi (by decide +kernel)) rfl ?_
    intro d hd cl
    refine lf_blk B_Lw_hire_0 ?_
    refine lf_aload rfl ?_
    refine lf_iconst lf_c0 ?_
    refine lf_aload rfl ?_
    refine lf_iload rfl ?_
    refine lf_iload rfl ?_
    by_cases c : x = 0
    · subst c
      rw [if_pos rfl] at h2
      cases h2; subst h3
      refine lf_callVx (as := [.int x1, .int x2]) (rest := [.int (0 : Int32), .ref 404]) rfl rfl lf_a0 rfl (Nat.le_trans (by decide) hd) rfl rfl (by decide +kernel : mj_find (mj_hd j_Lw_hire) 5 0 = some 13) (s_Main_hire h1) ?_
      refine lf_blk B_Lw_hire_13 ?_
      refine lf_astx (L := [.ref 0, .int x1, .int x2, .ref 404, mj_X]) rfl rfl rfl ?_
      refine lf_iconst lf_c1 ?_
      exact lf_iret ⟨rfl, rfl, rfl⟩
    rw [if_neg c] at h2
    by_cases c : x = 4
    · subst c
      rw [if_pos rfl] at h2
      cases h2; subst h3
      refine lf_callVx (as := [.int x1, .int x2]) (rest := [.int (0 : Int32), .ref 404]) rfl rfl lf_a0 rfl (Nat.le_trans (by decide) hd) rfl rfl (by decide +kernel : mj_find (mj_hd j_Lw_hire) 5 4 = some 17) (s_Main_hire h1) ?_
      refine lf_blk B_Lw_hire_17 ?_
      refine lf_astx (L := [.ref 0, .int x1, .int x2, .ref 404, mj_X]) rfl rfl rfl ?_
      refine lf_iconst lf_c2 ?_
      exact lf_iret ⟨rfl, rfl, rfl⟩
    rw [if_neg c] at h2
    cases h2
  · refine lf_inW (D := 4) (cl' := fun cl => cl) (ls := [.ref 0, .int x1, .int x2, .ref 404, mj_U]) rfl (lf_zi (by decide +kernel)) rfl ?_
    intro d hd cl
    refine lf_blk B_Lw_hire_0 ?_
    refine lf_aload rfl ?_
    refine lf_iconst lf_c0 ?_
    refine lf_aload rfl ?_
    refine lf_iload rfl ?_
    refine lf_iload rfl ?_
    refine lf_callVni (as := [.int x1, .int x2]) (rest := [.int (0 : Int32), .ref 404]) rfl rfl lf_a0 rfl (Nat.le_trans (by decide) hd) rfl rfl (s_Main_hire h1) ?_
    refine lf_i2l ?_
    refine lf_last h ?_
    intro s2 h
    refine lf_goto ?_
    refine lf_blk B_Lw_hire_21 ?_
    refine lf_iconst lf_c0 ?_
    cases h
    exact lf_iret ⟨rfl, rfl, rfl⟩
theorem s_Lw_teach {sc : Nat × (Nat → Int32)} {x1 : Int32} {s : lf_S} {p : Int32 × lf_S} (h : f_Lw_teach x1 s = some p) : lf_ow sc 5 j_Lw_teach [.ref 0, .int x1, .ref 404] s (some (.int p.1)) p.2 := by
  unfold f_Lw_teach at h
  refine lf_wr_cases h (fun x s2 k h1 h2 h3 => ?_) (fun v s2 h1 h => ?_)
  · refine lf_inW (D := 4) (cl' := fun _ => false) (ls := [.ref 0, .int x1, .ref 404, mj_U]) rfl (lf_zi (by decide +kernel)) rfl ?_
    intro d hd cl
    refine lf_blk B_Lw_teach_0 ?_
    refine lf_aload rfl ?_
    refine lf_iconst lf_c0 ?_
    refine lf_aload rfl ?_
    refine lf_iload rfl ?_
    by_cases c : x = 3
    · subst c
      rw [if_pos rfl] at h2
      cases h2; subst h3
      refine lf_callVx (as := [.int x1]) (rest := [.int (0 : Int32), .ref 404]) rfl rfl lf_a0 rfl (Nat.le_trans (by decide) hd) rfl rfl (by decide +kernel : mj_find (mj_hd j_Lw_teach) 4 3 = some 12) (s_Main_teach h1) ?_
      refine lf_blk B_Lw_teach_12 ?_
      refine lf_astx (L := [.ref 0, .int x1, .ref 404, mj_X]) rfl rfl rfl ?_
      refine lf_iconst lf_c1 ?_
      exact lf_iret ⟨rfl, rfl, rfl⟩
    rw [if_neg c] at h2
    cases h2
  · refine lf_inW (D := 4) (cl' := fun cl => cl) (ls := [.ref 0, .int x1, .ref 404, mj_U]) rfl (lf_zi (by decide +kernel)) rfl ?_
    intro d hd cl
    refine lf_blk B_Lw_teach_0 ?_
    refine lf_aload rfl ?_
    refine lf_iconst lf_c0 ?_
    refine lf_aload rfl ?_
    refine lf_iload rfl ?_
    refine lf_callVni (as := [.int x1]) (rest := [.int (0 : Int32), .ref 404]) rfl rfl lf_a0 rfl (Nat.le_trans (by decide) hd) rfl rfl (s_Main_teach h1) ?_
    refine lf_i2l ?_
    refine lf_last h ?_
    intro s2 h
    refine lf_goto ?_
    refine lf_blk B_Lw_teach_15 ?_
    refine lf_iconst lf_c0 ?_
    cases h
    exact lf_iret ⟨rfl, rfl, rfl⟩
theorem s_Lw_make {sc : Nat × (Nat → Int32)} {x1 : Int32} {s : lf_S} {p : Int32 × lf_S} (h : f_Lw_make x1 s = some p) : lf_ow sc 5 j_Lw_make [.ref 0, .int x1, .ref 404] s (some (.int p.1)) p.2 := by
  unfold f_Lw_make at h
  refine lf_wr_cases h (fun x s2 k h1 h2 h3 => ?_) (fun v s2 h1 h => ?_)
  · refine lf_inW (D := 4) (cl' := fun _ => false) (ls := [.ref 0, .int x1, .ref 404, mj_U]) rfl (lf_zi (by decide +kernel)) rfl ?_
    intro d hd cl
    refine lf_blk B_Lw_make_0 ?_
    refine lf_aload rfl ?_
    refine lf_iconst lf_c0 ?_
    refine lf_aload rfl ?_
    refine lf_iload rfl ?_
    by_cases c : x = 3
    · subst c
      rw [if_pos rfl] at h2
      cases h2; subst h3
      refine lf_callVx (as := [.int x1]) (rest := [.int (0 : Int32), .ref 404]) rfl rfl lf_a0 rfl (Nat.le_trans (by decide) hd) rfl rfl (by decide +kernel : mj_find (mj_hd j_Lw_make) 4 3 = some 12) (s_Main_make h1) ?_
      refine lf_blk B_Lw_make_12 ?_
      refine lf_astx (L := [.ref 0, .int x1, .ref 404, mj_X]) rfl rfl rfl ?_
      refine lf_iconst lf_c1 ?_
      exact lf_iret ⟨rfl, rfl, rfl⟩
    rw [if_neg c] at h2
    by_cases c : x = 4
    · subst c
      rw [if_pos rfl] at h2
      cases h2; subst h3
      refine lf_callVx (as := [.int x1]) (rest := [.int (0 : Int32), .ref 404]) rfl rfl lf_a0 rfl (Nat.le_trans (by decide) hd) rfl rfl (by decide +kernel : mj_find (mj_hd j_Lw_make) 4 4 = some 15) (s_Main_make h1) ?_
      refine lf_blk B_Lw_make_15 ?_
      refine lf_astx (L := [.ref 0, .int x1, .ref 404, mj_X]) rfl rfl rfl ?_
      refine lf_iconst lf_c2 ?_
      exact lf_iret ⟨rfl, rfl, rfl⟩
    rw [if_neg c] at h2
    cases h2
  · refine lf_inW (D := 4) (cl' := fun cl => cl) (ls := [.ref 0, .int x1, .ref 404, mj_U]) rfl (lf_zi (by decide +kernel)) rfl ?_
    intro d hd cl
    refine lf_blk B_Lw_make_0 ?_
    refine lf_aload rfl ?_
    refine lf_iconst lf_c0 ?_
    refine lf_aload rfl ?_
    refine lf_iload rfl ?_
    refine lf_callVni (as := [.int x1]) (rest := [.int (0 : Int32), .ref 404]) rfl rfl lf_a0 rfl (Nat.le_trans (by decide) hd) rfl rfl (s_Main_make h1) ?_
    refine lf_i2l ?_
    refine lf_last h ?_
    intro s2 h
    refine lf_goto ?_
    refine lf_blk B_Lw_make_18 ?_
    refine lf_iconst lf_c0 ?_
    cases h
    exact lf_iret ⟨rfl, rfl, rfl⟩
theorem s_Lw_gain {sc : Nat × (Nat → Int32)} {x1 : Int32} {x2 : Int32} {s : lf_S} {p : Int32 × lf_S} (h : f_Lw_gain x1 x2 s = some p) : lf_ow sc 4 j_Lw_gain [.ref 0, .int x1, .int x2, .ref 404] s (some (.int p.1)) p.2 := by
  unfold f_Lw_gain at h
  refine lf_wr_cases h (fun x s2 k h1 h2 h3 => ?_) (fun v s2 h1 h => ?_)
  · refine lf_inW (D := 3) (cl' := fun _ => false) (ls := [.ref 0, .int x1, .int x2, .ref 404, mj_U]) rfl (lf_zi (by decide +kernel)) rfl ?_
    intro d hd cl
    refine lf_blk B_Lw_gain_0 ?_
    refine lf_aload rfl ?_
    refine lf_iconst lf_c0 ?_
    refine lf_aload rfl ?_
    refine lf_iload rfl ?_
    refine lf_iload rfl ?_
    by_cases c : x = 3
    · subst c
      rw [if_pos rfl] at h2
      cases h2; subst h3
      refine lf_callVx (as := [.int x1, .int x2]) (rest := [.int (0 : Int32), .ref 404]) rfl rfl lf_a0 rfl (Nat.le_trans (by decide) hd) rfl rfl (by decide +kernel : mj_find (mj_hd j_Lw_gain) 5 3 = some 13) (s_Main_gain h1) ?_
      refine lf_blk B_Lw_gain_13 ?_
      refine lf_astx (L := [.ref 0, .int x1, .int x2, .ref 404, mj_X]) rfl rfl rfl ?_
      refine lf_iconst lf_c1 ?_
      exact lf_iret ⟨rfl, rfl, rfl⟩
    rw [if_neg c] at h2
    by_cases c : x = 0
    · subst c
      rw [if_pos rfl] at h2
      cases h2; subst h3
      refine lf_callVx (as := [.int x1, .int x2]) (rest := [.int (0 : Int32), .ref 404]) rfl rfl lf_a0 rfl (Nat.le_trans (by decide) hd) rfl rfl (by decide +kernel : mj_find (mj_hd j_Lw_gain) 5 0 = some 17) (s_Main_gain h1) ?_
      refine lf_blk B_Lw_gain_17 ?_
      refine lf_astx (L := [.ref 0, .int x1, .int x2, .ref 404, mj_X]) rfl rfl rfl ?_
      refine lf_iconst lf_c2 ?_
      exact lf_iret ⟨rfl, rfl, rfl⟩
    rw [if_neg c] at h2
    cases h2
  · refine lf_inW (D := 3) (cl' := fun cl => cl) (ls := [.ref 0, .int x1, .int x2, .ref 404, mj_U]) rfl (lf_zi (by decide +kernel)) rfl ?_
    intro d hd cl
    refine lf_blk B_Lw_gain_0 ?_
    refine lf_aload rfl ?_
    refine lf_iconst lf_c0 ?_
    refine lf_aload rfl ?_
    refine lf_iload rfl ?_
    refine lf_iload rfl ?_
    refine lf_callVni (as := [.int x1, .int x2]) (rest := [.int (0 : Int32), .ref 404]) rfl rfl lf_a0 rfl (Nat.le_trans (by decide) hd) rfl rfl (s_Main_gain h1) ?_
    refine lf_i2l ?_
    refine lf_last h ?_
    intro s2 h
    refine lf_goto ?_
    refine lf_blk B_Lw_gain_21 ?_
    refine lf_iconst lf_c0 ?_
    cases h
    exact lf_iret ⟨rfl, rfl, rfl⟩
theorem s_Lw_cuts {sc : Nat × (Nat → Int32)} {x1 : Int32} {x2 : Int32} {s : lf_S} {p : Int32 × lf_S} (h : f_Lw_cuts x1 x2 s = some p) : lf_ow sc 4 j_Lw_cuts [.ref 0, .int x1, .int x2, .ref 404] s (some (.int p.1)) p.2 := by
  unfold f_Lw_cuts at h
  refine lf_wr_cases h (fun x s2 k h1 h2 h3 => ?_) (fun v s2 h1 h => ?_)
  · refine lf_inW (D := 3) (cl' := fun _ => false) (ls := [.ref 0, .int x1, .int x2, .ref 404, mj_U]) rfl (lf_zi (by decide +kernel)) rfl ?_
    intro d hd cl
    refine lf_blk B_Lw_cuts_0 ?_
    refine lf_aload rfl ?_
    refine lf_iconst lf_c0 ?_
    refine lf_aload rfl ?_
    refine lf_iload rfl ?_
    refine lf_iload rfl ?_
    by_cases c : x = 3
    · subst c
      rw [if_pos rfl] at h2
      cases h2; subst h3
      refine lf_callVx (as := [.int x1, .int x2]) (rest := [.int (0 : Int32), .ref 404]) rfl rfl lf_a0 rfl (Nat.le_trans (by decide) hd) rfl rfl (by decide +kernel : mj_find (mj_hd j_Lw_cuts) 5 3 = some 13) (s_Main_cuts h1) ?_
      refine lf_blk B_Lw_cuts_13 ?_
      refine lf_astx (L := [.ref 0, .int x1, .int x2, .ref 404, mj_X]) rfl rfl rfl ?_
      refine lf_iconst lf_c1 ?_
      exact lf_iret ⟨rfl, rfl, rfl⟩
    rw [if_neg c] at h2
    by_cases c : x = 0
    · subst c
      rw [if_pos rfl] at h2
      cases h2; subst h3
      refine lf_callVx (as := [.int x1, .int x2]) (rest := [.int (0 : Int32), .ref 404]) rfl rfl lf_a0 rfl (Nat.le_trans (by decide) hd) rfl rfl (by decide +kernel : mj_find (mj_hd j_Lw_cuts) 5 0 = some 17) (s_Main_cuts h1) ?_
      refine lf_blk B_Lw_cuts_17 ?_
      refine lf_astx (L := [.ref 0, .int x1, .int x2, .ref 404, mj_X]) rfl rfl rfl ?_
      refine lf_iconst lf_c2 ?_
      exact lf_iret ⟨rfl, rfl, rfl⟩
    rw [if_neg c] at h2
    cases h2
  · refine lf_inW (D := 3) (cl' := fun cl => cl) (ls := [.ref 0, .int x1, .int x2, .ref 404, mj_U]) rfl (lf_zi (by decide +kernel)) rfl ?_
    intro d hd cl
    refine lf_blk B_Lw_cuts_0 ?_
    refine lf_aload rfl ?_
    refine lf_iconst lf_c0 ?_
    refine lf_aload rfl ?_
    refine lf_iload rfl ?_
    refine lf_iload rfl ?_
    refine lf_callVni (as := [.int x1, .int x2]) (rest := [.int (0 : Int32), .ref 404]) rfl rfl lf_a0 rfl (Nat.le_trans (by decide) hd) rfl rfl (s_Main_cuts h1) ?_
    refine lf_i2l ?_
    refine lf_last h ?_
    intro s2 h
    refine lf_goto ?_
    refine lf_blk B_Lw_cuts_21 ?_
    refine lf_iconst lf_c0 ?_
    cases h
    exact lf_iret ⟨rfl, rfl, rfl⟩
theorem s_Lw_pieces {sc : Nat × (Nat → Int32)} {x1 : Int32} {s : lf_S} {p : Int32 × lf_S} (h : f_Lw_pieces x1 s = some p) : lf_ow sc 68 j_Lw_pieces [.ref 0, .int x1, .ref 404] s (some (.int p.1)) p.2 := by
  unfold f_Lw_pieces at h
  refine lf_wr_cases h (fun x s2 k h1 h2 h3 => ?_) (fun v s2 h1 h => ?_)
  · refine lf_inW (D := 67) (cl' := fun _ => false) (ls := [.ref 0, .int x1, .ref 404, mj_U]) rfl (lf_zi (by decide +kernel)) rfl ?_
    intro d hd cl
    refine lf_blk B_Lw_pieces_0 ?_
    refine lf_aload rfl ?_
    refine lf_iconst lf_c0 ?_
    refine lf_aload rfl ?_
    refine lf_iload rfl ?_
    by_cases c : x = 3
    · subst c
      rw [if_pos rfl] at h2
      cases h2; subst h3
      refine lf_callVx (as := [.int x1]) (rest := [.int (0 : Int32), .ref 404]) rfl rfl lf_a0 rfl (Nat.le_trans (by decide) hd) rfl rfl (by decide +kernel : mj_find (mj_hd j_Lw_pieces) 4 3 = some 12) (s_Main_pieces h1) ?_
      refine lf_blk B_Lw_pieces_12 ?_
      refine lf_astx (L := [.ref 0, .int x1, .ref 404, mj_X]) rfl rfl rfl ?_
      refine lf_iconst lf_c1 ?_
      exact lf_iret ⟨rfl, rfl, rfl⟩
    rw [if_neg c] at h2
    by_cases c : x = 0
    · subst c
      rw [if_pos rfl] at h2
      cases h2; subst h3
      refine lf_callVx (as := [.int x1]) (rest := [.int (0 : Int32), .ref 404]) rfl rfl lf_a0 rfl (Nat.le_trans (by decide) hd) rfl rfl (by decide +kernel : mj_find (mj_hd j_Lw_pieces) 4 0 = some 15) (s_Main_pieces h1) ?_
      refine lf_blk B_Lw_pieces_15 ?_
      refine lf_astx (L := [.ref 0, .int x1, .ref 404, mj_X]) rfl rfl rfl ?_
      refine lf_iconst lf_c2 ?_
      exact lf_iret ⟨rfl, rfl, rfl⟩
    rw [if_neg c] at h2
    cases h2
  · refine lf_inW (D := 67) (cl' := fun cl => cl) (ls := [.ref 0, .int x1, .ref 404, mj_U]) rfl (lf_zi (by decide +kernel)) rfl ?_
    intro d hd cl
    refine lf_blk B_Lw_pieces_0 ?_
    refine lf_aload rfl ?_
    refine lf_iconst lf_c0 ?_
    refine lf_aload rfl ?_
    refine lf_iload rfl ?_
    refine lf_callVni (as := [.int x1]) (rest := [.int (0 : Int32), .ref 404]) rfl rfl lf_a0 rfl (Nat.le_trans (by decide) hd) rfl rfl (s_Main_pieces h1) ?_
    refine lf_i2l ?_
    refine lf_last h ?_
    intro s2 h
    refine lf_goto ?_
    refine lf_blk B_Lw_pieces_18 ?_
    refine lf_iconst lf_c0 ?_
    cases h
    exact lf_iret ⟨rfl, rfl, rfl⟩
theorem s_Lw_rod {sc : Nat × (Nat → Int32)} {x1 : Int32} {x2 : Int32} {s : lf_S} {p : Int32 × lf_S} (h : f_Lw_rod x1 x2 s = some p) : lf_ow sc 68 j_Lw_rod [.ref 0, .int x1, .int x2, .ref 404] s (some (.int p.1)) p.2 := by
  unfold f_Lw_rod at h
  refine lf_wr_cases h (fun x s2 k h1 h2 h3 => ?_) (fun v s2 h1 h => ?_)
  · refine lf_inW (D := 67) (cl' := fun _ => false) (ls := [.ref 0, .int x1, .int x2, .ref 404, mj_U]) rfl (lf_zi (by decide +kernel)) rfl ?_
    intro d hd cl
    refine lf_blk B_Lw_rod_0 ?_
    refine lf_aload rfl ?_
    refine lf_iconst lf_c0 ?_
    refine lf_aload rfl ?_
    refine lf_iload rfl ?_
    refine lf_iload rfl ?_
    by_cases c : x = 3
    · subst c
      rw [if_pos rfl] at h2
      cases h2; subst h3
      refine lf_callVx (as := [.int x1, .int x2]) (rest := [.int (0 : Int32), .ref 404]) rfl rfl lf_a0 rfl (Nat.le_trans (by decide) hd) rfl rfl (by decide +kernel : mj_find (mj_hd j_Lw_rod) 5 3 = some 13) (s_Main_rod h1) ?_
      refine lf_blk B_Lw_rod_13 ?_
      refine lf_astx (L := [.ref 0, .int x1, .int x2, .ref 404, mj_X]) rfl rfl rfl ?_
      refine lf_iconst lf_c1 ?_
      exact lf_iret ⟨rfl, rfl, rfl⟩
    rw [if_neg c] at h2
    by_cases c : x = 0
    · subst c
      rw [if_pos rfl] at h2
      cases h2; subst h3
      refine lf_callVx (as := [.int x1, .int x2]) (rest := [.int (0 : Int32), .ref 404]) rfl rfl lf_a0 rfl (Nat.le_trans (by decide) hd) rfl rfl (by decide +kernel : mj_find (mj_hd j_Lw_rod) 5 0 = some 17) (s_Main_rod h1) ?_
      refine lf_blk B_Lw_rod_17 ?_
      refine lf_astx (L := [.ref 0, .int x1, .int x2, .ref 404, mj_X]) rfl rfl rfl ?_
      refine lf_iconst lf_c2 ?_
      exact lf_iret ⟨rfl, rfl, rfl⟩
    rw [if_neg c] at h2
    cases h2
  · refine lf_inW (D := 67) (cl' := fun cl => cl) (ls := [.ref 0, .int x1, .int x2, .ref 404, mj_U]) rfl (lf_zi (by decide +kernel)) rfl ?_
    intro d hd cl
    refine lf_blk B_Lw_rod_0 ?_
    refine lf_aload rfl ?_
    refine lf_iconst lf_c0 ?_
    refine lf_aload rfl ?_
    refine lf_iload rfl ?_
    refine lf_iload rfl ?_
    refine lf_callVni (as := [.int x1, .int x2]) (rest := [.int (0 : Int32), .ref 404]) rfl rfl lf_a0 rfl (Nat.le_trans (by decide) hd) rfl rfl (s_Main_rod h1) ?_
    refine lf_i2l ?_
    refine lf_last h ?_
    intro s2 h
    refine lf_goto ?_
    refine lf_blk B_Lw_rod_21 ?_
    refine lf_iconst lf_c0 ?_
    cases h
    exact lf_iret ⟨rfl, rfl, rfl⟩
theorem s_Lw_found {sc : Nat × (Nat → Int32)} {x1 : Int32} {s : lf_S} {p : Int32 × lf_S} (h : f_Lw_found x1 s = some p) : lf_ow sc 5 j_Lw_found [.ref 0, .int x1, .ref 404] s (some (.int p.1)) p.2 := by
  unfold f_Lw_found at h
  refine lf_wr_cases h (fun x s2 k h1 h2 h3 => ?_) (fun v s2 h1 h => ?_)
  · refine lf_inW (D := 4) (cl' := fun _ => false) (ls := [.ref 0, .int x1, .ref 404, mj_U]) rfl (lf_zi (by decide +kernel)) rfl ?_
    intro d hd cl
    refine lf_blk B_Lw_found_0 ?_
    refine lf_aload rfl ?_
    refine lf_iconst lf_c0 ?_
    refine lf_aload rfl ?_
    refine lf_iload rfl ?_
    by_cases c : x = 0
    · subst c
      rw [if_pos rfl] at h2
      cases h2; subst h3
      refine lf_callVx (as := [.int x1]) (rest := [.int (0 : Int32), .ref 404]) rfl rfl lf_a0 rfl (Nat.le_trans (by decide) hd) rfl rfl (by decide +kernel : mj_find (mj_hd j_Lw_found) 4 0 = some 12) (s_Main_found h1) ?_
      refine lf_blk B_Lw_found_12 ?_
      refine lf_astx (L := [.ref 0, .int x1, .ref 404, mj_X]) rfl rfl rfl ?_
      refine lf_iconst lf_c1 ?_
      exact lf_iret ⟨rfl, rfl, rfl⟩
    rw [if_neg c] at h2
    cases h2
  · refine lf_inW (D := 4) (cl' := fun cl => cl) (ls := [.ref 0, .int x1, .ref 404, mj_U]) rfl (lf_zi (by decide +kernel)) rfl ?_
    intro d hd cl
    refine lf_blk B_Lw_found_0 ?_
    refine lf_aload rfl ?_
    refine lf_iconst lf_c0 ?_
    refine lf_aload rfl ?_
    refine lf_iload rfl ?_
    refine lf_callVni (as := [.int x1]) (rest := [.int (0 : Int32), .ref 404]) rfl rfl lf_a0 rfl (Nat.le_trans (by decide) hd) rfl rfl (s_Main_found h1) ?_
    refine lf_i2l ?_
    refine lf_last h ?_
    intro s2 h
    refine lf_goto ?_
    refine lf_blk B_Lw_found_15 ?_
    refine lf_iconst lf_c0 ?_
    cases h
    exact lf_iret ⟨rfl, rfl, rfl⟩
theorem s_Lw_look {sc : Nat × (Nat → Int32)} {s : lf_S} {p : Int32 × lf_S} (h : f_Lw_look s = some p) : lf_ow sc 5 j_Lw_look [.ref 0, .ref 404] s (some (.int p.1)) p.2 := by
  unfold f_Lw_look at h
  refine lf_wr_cases h (fun x s2 k h1 h2 h3 => ?_) (fun v s2 h1 h => ?_)
  · refine lf_inW (D := 4) (cl' := fun _ => false) (ls := [.ref 0, .ref 404, mj_U]) rfl (lf_zi (by decide +kernel)) rfl ?_
    intro d hd cl
    refine lf_blk B_Lw_look_0 ?_
    refine lf_aload rfl ?_
    refine lf_iconst lf_c0 ?_
    refine lf_aload rfl ?_
    by_cases c : x = 0
    · subst c
      rw [if_pos rfl] at h2
      cases h2; subst h3
      refine lf_callVx (as := []) (rest := [.int (0 : Int32), .ref 404]) rfl rfl lf_a0 rfl (Nat.le_trans (by decide) hd) rfl rfl (by decide +kernel : mj_find (mj_hd j_Lw_look) 3 0 = some 11) (s_Main_look h1) ?_
      refine lf_blk B_Lw_look_11 ?_
      refine lf_astx (L := [.ref 0, .ref 404, mj_X]) rfl rfl rfl ?_
      refine lf_iconst lf_c1 ?_
      exact lf_iret ⟨rfl, rfl, rfl⟩
    rw [if_neg c] at h2
    cases h2
  · refine lf_inW (D := 4) (cl' := fun cl => cl) (ls := [.ref 0, .ref 404, mj_U]) rfl (lf_zi (by decide +kernel)) rfl ?_
    intro d hd cl
    refine lf_blk B_Lw_look_0 ?_
    refine lf_aload rfl ?_
    refine lf_iconst lf_c0 ?_
    refine lf_aload rfl ?_
    refine lf_callVni (as := []) (rest := [.int (0 : Int32), .ref 404]) rfl rfl lf_a0 rfl (Nat.le_trans (by decide) hd) rfl rfl (s_Main_look h1) ?_
    refine lf_i2l ?_
    refine lf_last h ?_
    intro s2 h
    refine lf_goto ?_
    refine lf_blk B_Lw_look_14 ?_
    refine lf_iconst lf_c0 ?_
    cases h
    exact lf_iret ⟨rfl, rfl, rfl⟩
theorem s_Lw_team {sc : Nat × (Nat → Int32)} {x1 : Int32} {s : lf_S} {p : Int32 × lf_S} (h : f_Lw_team x1 s = some p) : lf_ow sc 68 j_Lw_team [.ref 0, .int x1, .ref 404] s (some (.int p.1)) p.2 := by
  unfold f_Lw_team at h
  refine lf_wr_cases h (fun x s2 k h1 h2 h3 => ?_) (fun v s2 h1 h => ?_)
  · refine lf_inW (D := 67) (cl' := fun _ => false) (ls := [.ref 0, .int x1, .ref 404, mj_U]) rfl (lf_zi (by decide +kernel)) rfl ?_
    intro d hd cl
    refine lf_blk B_Lw_team_0 ?_
    refine lf_aload rfl ?_
    refine lf_iconst lf_c0 ?_
    refine lf_aload rfl ?_
    refine lf_iload rfl ?_
    by_cases c : x = 3
    · subst c
      rw [if_pos rfl] at h2
      cases h2; subst h3
      refine lf_callVx (as := [.int x1]) (rest := [.int (0 : Int32), .ref 404]) rfl rfl lf_a0 rfl (Nat.le_trans (by decide) hd) rfl rfl (by decide +kernel : mj_find (mj_hd j_Lw_team) 4 3 = some 12) (s_Main_team h1) ?_
      refine lf_blk B_Lw_team_12 ?_
      refine lf_astx (L := [.ref 0, .int x1, .ref 404, mj_X]) rfl rfl rfl ?_
      refine lf_iconst lf_c1 ?_
      exact lf_iret ⟨rfl, rfl, rfl⟩
    rw [if_neg c] at h2
    cases h2
  · refine lf_inW (D := 67) (cl' := fun cl => cl) (ls := [.ref 0, .int x1, .ref 404, mj_U]) rfl (lf_zi (by decide +kernel)) rfl ?_
    intro d hd cl
    refine lf_blk B_Lw_team_0 ?_
    refine lf_aload rfl ?_
    refine lf_iconst lf_c0 ?_
    refine lf_aload rfl ?_
    refine lf_iload rfl ?_
    refine lf_callVni (as := [.int x1]) (rest := [.int (0 : Int32), .ref 404]) rfl rfl lf_a0 rfl (Nat.le_trans (by decide) hd) rfl rfl (s_Main_team h1) ?_
    refine lf_i2l ?_
    refine lf_last h ?_
    intro s2 h
    refine lf_goto ?_
    refine lf_blk B_Lw_team_15 ?_
    refine lf_iconst lf_c0 ?_
    cases h
    exact lf_iret ⟨rfl, rfl, rfl⟩
theorem s_Lw_pairs {sc : Nat × (Nat → Int32)} {x1 : Int32} {s : lf_S} {p : Int32 × lf_S} (h : f_Lw_pairs x1 s = some p) : lf_ow sc 68 j_Lw_pairs [.ref 0, .int x1, .ref 404] s (some (.int p.1)) p.2 := by
  unfold f_Lw_pairs at h
  refine lf_wr_cases h (fun x s2 k h1 h2 h3 => ?_) (fun v s2 h1 h => ?_)
  · refine lf_inW (D := 67) (cl' := fun _ => false) (ls := [.ref 0, .int x1, .ref 404, mj_U]) rfl (lf_zi (by decide +kernel)) rfl ?_
    intro d hd cl
    refine lf_blk B_Lw_pairs_0 ?_
    refine lf_aload rfl ?_
    refine lf_iconst lf_c0 ?_
    refine lf_aload rfl ?_
    refine lf_iload rfl ?_
    by_cases c : x = 3
    · subst c
      rw [if_pos rfl] at h2
      cases h2; subst h3
      refine lf_callVx (as := [.int x1]) (rest := [.int (0 : Int32), .ref 404]) rfl rfl lf_a0 rfl (Nat.le_trans (by decide) hd) rfl rfl (by decide +kernel : mj_find (mj_hd j_Lw_pairs) 4 3 = some 12) (s_Main_pairs h1) ?_
      refine lf_blk B_Lw_pairs_12 ?_
      refine lf_astx (L := [.ref 0, .int x1, .ref 404, mj_X]) rfl rfl rfl ?_
      refine lf_iconst lf_c1 ?_
      exact lf_iret ⟨rfl, rfl, rfl⟩
    rw [if_neg c] at h2
    cases h2
  · refine lf_inW (D := 67) (cl' := fun cl => cl) (ls := [.ref 0, .int x1, .ref 404, mj_U]) rfl (lf_zi (by decide +kernel)) rfl ?_
    intro d hd cl
    refine lf_blk B_Lw_pairs_0 ?_
    refine lf_aload rfl ?_
    refine lf_iconst lf_c0 ?_
    refine lf_aload rfl ?_
    refine lf_iload rfl ?_
    refine lf_callVni (as := [.int x1]) (rest := [.int (0 : Int32), .ref 404]) rfl rfl lf_a0 rfl (Nat.le_trans (by decide) hd) rfl rfl (s_Main_pairs h1) ?_
    refine lf_i2l ?_
    refine lf_last h ?_
    intro s2 h
    refine lf_goto ?_
    refine lf_blk B_Lw_pairs_15 ?_
    refine lf_iconst lf_c0 ?_
    cases h
    exact lf_iret ⟨rfl, rfl, rfl⟩
theorem s_Lw_change {sc : Nat × (Nat → Int32)} {x1 : Int32} {x2 : Int32} {s : lf_S} {p : Int32 × lf_S} (h : f_Lw_change x1 x2 s = some p) : lf_ow sc 4 j_Lw_change [.ref 0, .int x1, .int x2, .ref 404] s (some (.int p.1)) p.2 := by
  unfold f_Lw_change at h
  refine lf_wr_cases h (fun x s2 k h1 h2 h3 => ?_) (fun v s2 h1 h => ?_)
  · refine lf_inW (D := 3) (cl' := fun _ => false) (ls := [.ref 0, .int x1, .int x2, .ref 404, mj_U]) rfl (lf_zi (by decide +kernel)) rfl ?_
    intro d hd cl
    refine lf_blk B_Lw_change_0 ?_
    refine lf_aload rfl ?_
    refine lf_iconst lf_c0 ?_
    refine lf_aload rfl ?_
    refine lf_iload rfl ?_
    refine lf_iload rfl ?_
    by_cases c : x = 3
    · subst c
      rw [if_pos rfl] at h2
      cases h2; subst h3
      refine lf_callVx (as := [.int x1, .int x2]) (rest := [.int (0 : Int32), .ref 404]) rfl rfl lf_a0 rfl (Nat.le_trans (by decide) hd) rfl rfl (by decide +kernel : mj_find (mj_hd j_Lw_change) 5 3 = some 13) (s_Main_change h1) ?_
      refine lf_blk B_Lw_change_13 ?_
      refine lf_astx (L := [.ref 0, .int x1, .int x2, .ref 404, mj_X]) rfl rfl rfl ?_
      refine lf_iconst lf_c1 ?_
      exact lf_iret ⟨rfl, rfl, rfl⟩
    rw [if_neg c] at h2
    cases h2
  · refine lf_inW (D := 3) (cl' := fun cl => cl) (ls := [.ref 0, .int x1, .int x2, .ref 404, mj_U]) rfl (lf_zi (by decide +kernel)) rfl ?_
    intro d hd cl
    refine lf_blk B_Lw_change_0 ?_
    refine lf_aload rfl ?_
    refine lf_iconst lf_c0 ?_
    refine lf_aload rfl ?_
    refine lf_iload rfl ?_
    refine lf_iload rfl ?_
    refine lf_callVni (as := [.int x1, .int x2]) (rest := [.int (0 : Int32), .ref 404]) rfl rfl lf_a0 rfl (Nat.le_trans (by decide) hd) rfl rfl (s_Main_change h1) ?_
    refine lf_i2l ?_
    refine lf_last h ?_
    intro s2 h
    refine lf_goto ?_
    refine lf_blk B_Lw_change_17 ?_
    refine lf_iconst lf_c0 ?_
    cases h
    exact lf_iret ⟨rfl, rfl, rfl⟩
theorem s_Lw_share {sc : Nat × (Nat → Int32)} {x1 : Int32} {x2 : Int32} {s : lf_S} {p : Int32 × lf_S} (h : f_Lw_share x1 x2 s = some p) : lf_ow sc 4 j_Lw_share [.ref 0, .int x1, .int x2, .ref 404] s (some (.int p.1)) p.2 := by
  unfold f_Lw_share at h
  refine lf_wr_cases h (fun x s2 k h1 h2 h3 => ?_) (fun v s2 h1 h => ?_)
  · refine lf_inW (D := 3) (cl' := fun _ => false) (ls := [.ref 0, .int x1, .int x2, .ref 404, mj_U]) rfl (lf_zi (by decide +kernel)) rfl ?_
    intro d hd cl
    refine lf_blk B_Lw_share_0 ?_
    refine lf_aload rfl ?_
    refine lf_iconst lf_c0 ?_
    refine lf_aload rfl ?_
    refine lf_iload rfl ?_
    refine lf_iload rfl ?_
    by_cases c : x = 3
    · subst c
      rw [if_pos rfl] at h2
      cases h2; subst h3
      refine lf_callVx (as := [.int x1, .int x2]) (rest := [.int (0 : Int32), .ref 404]) rfl rfl lf_a0 rfl (Nat.le_trans (by decide) hd) rfl rfl (by decide +kernel : mj_find (mj_hd j_Lw_share) 5 3 = some 13) (s_Main_share h1) ?_
      refine lf_blk B_Lw_share_13 ?_
      refine lf_astx (L := [.ref 0, .int x1, .int x2, .ref 404, mj_X]) rfl rfl rfl ?_
      refine lf_iconst lf_c1 ?_
      exact lf_iret ⟨rfl, rfl, rfl⟩
    rw [if_neg c] at h2
    by_cases c : x = 0
    · subst c
      rw [if_pos rfl] at h2
      cases h2; subst h3
      refine lf_callVx (as := [.int x1, .int x2]) (rest := [.int (0 : Int32), .ref 404]) rfl rfl lf_a0 rfl (Nat.le_trans (by decide) hd) rfl rfl (by decide +kernel : mj_find (mj_hd j_Lw_share) 5 0 = some 17) (s_Main_share h1) ?_
      refine lf_blk B_Lw_share_17 ?_
      refine lf_astx (L := [.ref 0, .int x1, .int x2, .ref 404, mj_X]) rfl rfl rfl ?_
      refine lf_iconst lf_c2 ?_
      exact lf_iret ⟨rfl, rfl, rfl⟩
    rw [if_neg c] at h2
    cases h2
  · refine lf_inW (D := 3) (cl' := fun cl => cl) (ls := [.ref 0, .int x1, .int x2, .ref 404, mj_U]) rfl (lf_zi (by decide +kernel)) rfl ?_
    intro d hd cl
    refine lf_blk B_Lw_share_0 ?_
    refine lf_aload rfl ?_
    refine lf_iconst lf_c0 ?_
    refine lf_aload rfl ?_
    refine lf_iload rfl ?_
    refine lf_iload rfl ?_
    refine lf_callVni (as := [.int x1, .int x2]) (rest := [.int (0 : Int32), .ref 404]) rfl rfl lf_a0 rfl (Nat.le_trans (by decide) hd) rfl rfl (s_Main_share h1) ?_
    refine lf_i2l ?_
    refine lf_last h ?_
    intro s2 h
    refine lf_goto ?_
    refine lf_blk B_Lw_share_21 ?_
    refine lf_iconst lf_c0 ?_
    cases h
    exact lf_iret ⟨rfl, rfl, rfl⟩
theorem s_Lw_price {sc : Nat × (Nat → Int32)} {x1 : Int32} {s : lf_S} {p : Int32 × lf_S} (h : f_Lw_price x1 s = some p) : lf_ow sc 4 j_Lw_price [.ref 0, .int x1, .ref 404] s (some (.int p.1)) p.2 := by
  unfold f_Lw_price at h
  refine lf_wr_cases h (fun x s2 k h1 h2 h3 => ?_) (fun v s2 h1 h => ?_)
  · refine lf_inW (D := 3) (cl' := fun _ => false) (ls := [.ref 0, .int x1, .ref 404, mj_U]) rfl (lf_zi (by decide +kernel)) rfl ?_
    intro d hd cl
    refine lf_blk B_Lw_price_0 ?_
    refine lf_aload rfl ?_
    refine lf_iconst lf_c0 ?_
    refine lf_aload rfl ?_
    refine lf_iload rfl ?_
    by_cases c : x = 3
    · subst c
      rw [if_pos rfl] at h2
      cases h2; subst h3
      refine lf_callVx (as := [.int x1]) (rest := [.int (0 : Int32), .ref 404]) rfl rfl lf_a0 rfl (Nat.le_trans (by decide) hd) rfl rfl (by decide +kernel : mj_find (mj_hd j_Lw_price) 4 3 = some 12) (s_Main_price h1) ?_
      refine lf_blk B_Lw_price_12 ?_
      refine lf_astx (L := [.ref 0, .int x1, .ref 404, mj_X]) rfl rfl rfl ?_
      refine lf_iconst lf_c1 ?_
      exact lf_iret ⟨rfl, rfl, rfl⟩
    rw [if_neg c] at h2
    cases h2
  · refine lf_inW (D := 3) (cl' := fun cl => cl) (ls := [.ref 0, .int x1, .ref 404, mj_U]) rfl (lf_zi (by decide +kernel)) rfl ?_
    intro d hd cl
    refine lf_blk B_Lw_price_0 ?_
    refine lf_aload rfl ?_
    refine lf_iconst lf_c0 ?_
    refine lf_aload rfl ?_
    refine lf_iload rfl ?_
    refine lf_callVni (as := [.int x1]) (rest := [.int (0 : Int32), .ref 404]) rfl rfl lf_a0 rfl (Nat.le_trans (by decide) hd) rfl rfl (s_Main_price h1) ?_
    refine lf_i2l ?_
    refine lf_last h ?_
    intro s2 h
    refine lf_goto ?_
    refine lf_blk B_Lw_price_15 ?_
    refine lf_iconst lf_c0 ?_
    cases h
    exact lf_iret ⟨rfl, rfl, rfl⟩
theorem s_Lw_rests {sc : Nat × (Nat → Int32)} {x1 : Int32} {s : lf_S} {p : Int32 × lf_S} (h : f_Lw_rests x1 s = some p) : lf_ow sc 7 j_Lw_rests [.ref 0, .int x1, .ref 404] s (some (.int p.1)) p.2 := by
  unfold f_Lw_rests at h
  refine lf_wr_cases h (fun x s2 k h1 h2 h3 => ?_) (fun v s2 h1 h => ?_)
  · refine lf_inW (D := 6) (cl' := fun _ => false) (ls := [.ref 0, .int x1, .ref 404, mj_U]) rfl (lf_zi (by decide +kernel)) rfl ?_
    intro d hd cl
    refine lf_blk B_Lw_rests_0 ?_
    refine lf_aload rfl ?_
    refine lf_iconst lf_c0 ?_
    refine lf_aload rfl ?_
    refine lf_iload rfl ?_
    by_cases c : x = 3
    · subst c
      rw [if_pos rfl] at h2
      cases h2; subst h3
      refine lf_callVx (as := [.int x1]) (rest := [.int (0 : Int32), .ref 404]) rfl rfl lf_a0 rfl (Nat.le_trans (by decide) hd) rfl rfl (by decide +kernel : mj_find (mj_hd j_Lw_rests) 4 3 = some 12) (s_Main_rests h1) ?_
      refine lf_blk B_Lw_rests_12 ?_
      refine lf_astx (L := [.ref 0, .int x1, .ref 404, mj_X]) rfl rfl rfl ?_
      refine lf_iconst lf_c1 ?_
      exact lf_iret ⟨rfl, rfl, rfl⟩
    rw [if_neg c] at h2
    cases h2
  · refine lf_inW (D := 6) (cl' := fun cl => cl) (ls := [.ref 0, .int x1, .ref 404, mj_U]) rfl (lf_zi (by decide +kernel)) rfl ?_
    intro d hd cl
    refine lf_blk B_Lw_rests_0 ?_
    refine lf_aload rfl ?_
    refine lf_iconst lf_c0 ?_
    refine lf_aload rfl ?_
    refine lf_iload rfl ?_
    refine lf_callVni (as := [.int x1]) (rest := [.int (0 : Int32), .ref 404]) rfl rfl lf_a0 rfl (Nat.le_trans (by decide) hd) rfl rfl (s_Main_rests h1) ?_
    refine lf_i2l ?_
    refine lf_last h ?_
    intro s2 h
    refine lf_goto ?_
    refine lf_blk B_Lw_rests_15 ?_
    refine lf_iconst lf_c0 ?_
    cases h
    exact lf_iret ⟨rfl, rfl, rfl⟩
theorem s_Lw_odds {sc : Nat × (Nat → Int32)} {x1 : Int32} {x2 : Int32} {s : lf_S} {p : Int32 × lf_S} (h : f_Lw_odds x1 x2 s = some p) : lf_ow sc 3 j_Lw_odds [.ref 0, .int x1, .int x2, .ref 404] s (some (.int p.1)) p.2 := by
  unfold f_Lw_odds at h
  refine lf_wr_cases h (fun x s2 k h1 h2 h3 => ?_) (fun v s2 h1 h => ?_)
  · refine lf_inW (D := 2) (cl' := fun _ => false) (ls := [.ref 0, .int x1, .int x2, .ref 404, mj_U]) rfl (lf_zi (by decide +kernel)) rfl ?_
    intro d hd cl
    refine lf_blk B_Lw_odds_0 ?_
    refine lf_aload rfl ?_
    refine lf_iconst lf_c0 ?_
    refine lf_aload rfl ?_
    refine lf_iload rfl ?_
    refine lf_iload rfl ?_
    by_cases c : x = 0
    · subst c
      rw [if_pos rfl] at h2
      cases h2; subst h3
      refine lf_callVx (as := [.int x1, .int x2]) (rest := [.int (0 : Int32), .ref 404]) rfl rfl lf_a0 rfl (Nat.le_trans (by decide) hd) rfl rfl (by decide +kernel : mj_find (mj_hd j_Lw_odds) 5 0 = some 13) (s_Main_odds h1) ?_
      refine lf_blk B_Lw_odds_13 ?_
      refine lf_astx (L := [.ref 0, .int x1, .int x2, .ref 404, mj_X]) rfl rfl rfl ?_
      refine lf_iconst lf_c1 ?_
      exact lf_iret ⟨rfl, rfl, rfl⟩
    rw [if_neg c] at h2
    cases h2
  · refine lf_inW (D := 2) (cl' := fun cl => cl) (ls := [.ref 0, .int x1, .int x2, .ref 404, mj_U]) rfl (lf_zi (by decide +kernel)) rfl ?_
    intro d hd cl
    refine lf_blk B_Lw_odds_0 ?_
    refine lf_aload rfl ?_
    refine lf_iconst lf_c0 ?_
    refine lf_aload rfl ?_
    refine lf_iload rfl ?_
    refine lf_iload rfl ?_
    refine lf_callVni (as := [.int x1, .int x2]) (rest := [.int (0 : Int32), .ref 404]) rfl rfl lf_a0 rfl (Nat.le_trans (by decide) hd) rfl rfl (s_Main_odds h1) ?_
    refine lf_i2l ?_
    refine lf_last h ?_
    intro s2 h
    refine lf_goto ?_
    refine lf_blk B_Lw_odds_17 ?_
    refine lf_iconst lf_c0 ?_
    cases h
    exact lf_iret ⟨rfl, rfl, rfl⟩
theorem s_Lw_most {sc : Nat × (Nat → Int32)} {x1 : Int32} {s : lf_S} {p : Int32 × lf_S} (h : f_Lw_most x1 s = some p) : lf_ow sc 3 j_Lw_most [.ref 0, .int x1, .ref 404] s (some (.int p.1)) p.2 := by
  unfold f_Lw_most at h
  refine lf_wr_cases h (fun x s2 k h1 h2 h3 => ?_) (fun v s2 h1 h => ?_)
  · refine lf_inW (D := 2) (cl' := fun _ => false) (ls := [.ref 0, .int x1, .ref 404, mj_U]) rfl (lf_zi (by decide +kernel)) rfl ?_
    intro d hd cl
    refine lf_blk B_Lw_most_0 ?_
    refine lf_aload rfl ?_
    refine lf_iconst lf_c0 ?_
    refine lf_aload rfl ?_
    refine lf_iload rfl ?_
    by_cases c : x = 2
    · subst c
      rw [if_pos rfl] at h2
      cases h2; subst h3
      refine lf_callVx (as := [.int x1]) (rest := [.int (0 : Int32), .ref 404]) rfl rfl lf_a0 rfl (Nat.le_trans (by decide) hd) rfl rfl (by decide +kernel : mj_find (mj_hd j_Lw_most) 4 2 = some 12) (s_Main_most h1) ?_
      refine lf_blk B_Lw_most_12 ?_
      refine lf_astx (L := [.ref 0, .int x1, .ref 404, mj_X]) rfl rfl rfl ?_
      refine lf_iconst lf_c1 ?_
      exact lf_iret ⟨rfl, rfl, rfl⟩
    rw [if_neg c] at h2
    cases h2
  · refine lf_inW (D := 2) (cl' := fun cl => cl) (ls := [.ref 0, .int x1, .ref 404, mj_U]) rfl (lf_zi (by decide +kernel)) rfl ?_
    intro d hd cl
    refine lf_blk B_Lw_most_0 ?_
    refine lf_aload rfl ?_
    refine lf_iconst lf_c0 ?_
    refine lf_aload rfl ?_
    refine lf_iload rfl ?_
    refine lf_callVni (as := [.int x1]) (rest := [.int (0 : Int32), .ref 404]) rfl rfl lf_a0 rfl (Nat.le_trans (by decide) hd) rfl rfl (s_Main_most h1) ?_
    refine lf_i2l ?_
    refine lf_last h ?_
    intro s2 h
    refine lf_goto ?_
    refine lf_blk B_Lw_most_15 ?_
    refine lf_iconst lf_c0 ?_
    cases h
    exact lf_iret ⟨rfl, rfl, rfl⟩
theorem s_Lw_sort {sc : Nat × (Nat → Int32)} {x1 : Int32} {s : lf_S} {p : Int32 × lf_S} (h : f_Lw_sort x1 s = some p) : lf_ow sc 3 j_Lw_sort [.ref 0, .int x1, .ref 404] s (some (.int p.1)) p.2 := by
  unfold f_Lw_sort at h
  refine lf_wr_cases h (fun x s2 k h1 h2 h3 => ?_) (fun v s2 h1 h => ?_)
  · refine lf_inW (D := 2) (cl' := fun _ => false) (ls := [.ref 0, .int x1, .ref 404, mj_U]) rfl (lf_zi (by decide +kernel)) rfl ?_
    intro d hd cl
    refine lf_blk B_Lw_sort_0 ?_
    refine lf_aload rfl ?_
    refine lf_iconst lf_c0 ?_
    refine lf_aload rfl ?_
    refine lf_iload rfl ?_
    by_cases c : x = 3
    · subst c
      rw [if_pos rfl] at h2
      cases h2; subst h3
      refine lf_callVx (as := [.int x1]) (rest := [.int (0 : Int32), .ref 404]) rfl rfl lf_a0 rfl (Nat.le_trans (by decide) hd) rfl rfl (by decide +kernel : mj_find (mj_hd j_Lw_sort) 4 3 = some 12) (s_Main_sort h1) ?_
      refine lf_blk B_Lw_sort_12 ?_
      refine lf_astx (L := [.ref 0, .int x1, .ref 404, mj_X]) rfl rfl rfl ?_
      refine lf_iconst lf_c1 ?_
      exact lf_iret ⟨rfl, rfl, rfl⟩
    rw [if_neg c] at h2
    cases h2
  · refine lf_inW (D := 2) (cl' := fun cl => cl) (ls := [.ref 0, .int x1, .ref 404, mj_U]) rfl (lf_zi (by decide +kernel)) rfl ?_
    intro d hd cl
    refine lf_blk B_Lw_sort_0 ?_
    refine lf_aload rfl ?_
    refine lf_iconst lf_c0 ?_
    refine lf_aload rfl ?_
    refine lf_iload rfl ?_
    refine lf_callVni (as := [.int x1]) (rest := [.int (0 : Int32), .ref 404]) rfl rfl lf_a0 rfl (Nat.le_trans (by decide) hd) rfl rfl (s_Main_sort h1) ?_
    refine lf_i2l ?_
    refine lf_last h ?_
    intro s2 h
    refine lf_goto ?_
    refine lf_blk B_Lw_sort_15 ?_
    refine lf_iconst lf_c0 ?_
    cases h
    exact lf_iret ⟨rfl, rfl, rfl⟩
theorem s_Lw_ahead {sc : Nat × (Nat → Int32)} {x1 : Int32} {x2 : Int32} {x3 : Int32} {s : lf_S} {p : Int32 × lf_S} (h : f_Lw_ahead x1 x2 x3 s = some p) : lf_ow sc 4 j_Lw_ahead [.ref 0, .int x1, .int x2, .int x3, .ref 404] s (some (.int p.1)) p.2 := by
  unfold f_Lw_ahead at h
  refine lf_wr_cases h (fun x s2 k h1 h2 h3 => ?_) (fun v s2 h1 h => ?_)
  · refine lf_inW (D := 3) (cl' := fun _ => false) (ls := [.ref 0, .int x1, .int x2, .int x3, .ref 404, mj_U]) rfl (lf_zi (by decide +kernel)) rfl ?_
    intro d hd cl
    refine lf_blk B_Lw_ahead_0 ?_
    refine lf_aload rfl ?_
    refine lf_iconst lf_c0 ?_
    refine lf_aload rfl ?_
    refine lf_iload rfl ?_
    refine lf_iload rfl ?_
    refine lf_iload rfl ?_
    by_cases c : x = 3
    · subst c
      rw [if_pos rfl] at h2
      cases h2; subst h3
      refine lf_callVx (as := [.int x1, .int x2, .int x3]) (rest := [.int (0 : Int32), .ref 404]) rfl rfl lf_a0 rfl (Nat.le_trans (by decide) hd) rfl rfl (by decide +kernel : mj_find (mj_hd j_Lw_ahead) 7 3 = some 15) (s_Main_ahead h1) ?_
      refine lf_blk B_Lw_ahead_15 ?_
      refine lf_astx (L := [.ref 0, .int x1, .int x2, .int x3, .ref 404, mj_X]) rfl rfl rfl ?_
      refine lf_iconst lf_c1 ?_
      exact lf_iret ⟨rfl, rfl, rfl⟩
    rw [if_neg c] at h2
    by_cases c : x = 0
    · subst c
      rw [if_pos rfl] at h2
      cases h2; subst h3
      refine lf_callVx (as := [.int x1, .int x2, .int x3]) (rest := [.int (0 : Int32), .ref 404]) rfl rfl lf_a0 rfl (Nat.le_trans (by decide) hd) rfl rfl (by decide +kernel : mj_find (mj_hd j_Lw_ahead) 7 0 = some 19) (s_Main_ahead h1) ?_
      refine lf_blk B_Lw_ahead_19 ?_
      refine lf_astx (L := [.ref 0, .int x1, .int x2, .int x3, .ref 404, mj_X]) rfl rfl rfl ?_
      refine lf_iconst lf_c2 ?_
      exact lf_iret ⟨rfl, rfl, rfl⟩
    rw [if_neg c] at h2
    cases h2
  · refine lf_inW (D := 3) (cl' := fun cl => cl) (ls := [.ref 0, .int x1, .int x2, .int x3, .ref 404, mj_U]) rfl (lf_zi (by decide +kernel)) rfl ?_
    intro d hd cl
    refine lf_blk B_Lw_ahead_0 ?_
    refine lf_aload rfl ?_
    refine lf_iconst lf_c0 ?_
    refine lf_aload rfl ?_
    refine lf_iload rfl ?_
    refine lf_iload rfl ?_
    refine lf_iload rfl ?_
    refine lf_callVni (as := [.int x1, .int x2, .int x3]) (rest := [.int (0 : Int32), .ref 404]) rfl rfl lf_a0 rfl (Nat.le_trans (by decide) hd) rfl rfl (s_Main_ahead h1) ?_
    refine lf_i2l ?_
    refine lf_last h ?_
    intro s2 h
    refine lf_goto ?_
    refine lf_blk B_Lw_ahead_23 ?_
    refine lf_iconst lf_c0 ?_
    cases h
    exact lf_iret ⟨rfl, rfl, rfl⟩
theorem s_Lw_trial {sc : Nat × (Nat → Int32)} {x1 : Int32} {x2 : Int32} {s : lf_S} {p : Int32 × lf_S} (h : f_Lw_trial x1 x2 s = some p) : lf_ow sc 8 j_Lw_trial [.ref 0, .int x1, .int x2, .ref 404] s (some (.int p.1)) p.2 := by
  unfold f_Lw_trial at h
  refine lf_wr_cases h (fun x s2 k h1 h2 h3 => ?_) (fun v s2 h1 h => ?_)
  · refine lf_inW (D := 7) (cl' := fun _ => false) (ls := [.ref 0, .int x1, .int x2, .ref 404, mj_U]) rfl (lf_zi (by decide +kernel)) rfl ?_
    intro d hd cl
    refine lf_blk B_Lw_trial_0 ?_
    refine lf_aload rfl ?_
    refine lf_iconst lf_c0 ?_
    refine lf_aload rfl ?_
    refine lf_iload rfl ?_
    refine lf_iload rfl ?_
    by_cases c : x = 0
    · subst c
      rw [if_pos rfl] at h2
      cases h2; subst h3
      refine lf_callVx (as := [.int x1, .int x2]) (rest := [.int (0 : Int32), .ref 404]) rfl rfl lf_a0 rfl (Nat.le_trans (by decide) hd) rfl rfl (by decide +kernel : mj_find (mj_hd j_Lw_trial) 5 0 = some 13) (s_Main_trial h1) ?_
      refine lf_blk B_Lw_trial_13 ?_
      refine lf_astx (L := [.ref 0, .int x1, .int x2, .ref 404, mj_X]) rfl rfl rfl ?_
      refine lf_iconst lf_c1 ?_
      exact lf_iret ⟨rfl, rfl, rfl⟩
    rw [if_neg c] at h2
    cases h2
  · refine lf_inW (D := 7) (cl' := fun cl => cl) (ls := [.ref 0, .int x1, .int x2, .ref 404, mj_U]) rfl (lf_zi (by decide +kernel)) rfl ?_
    intro d hd cl
    refine lf_blk B_Lw_trial_0 ?_
    refine lf_aload rfl ?_
    refine lf_iconst lf_c0 ?_
    refine lf_aload rfl ?_
    refine lf_iload rfl ?_
    refine lf_iload rfl ?_
    refine lf_callVni (as := [.int x1, .int x2]) (rest := [.int (0 : Int32), .ref 404]) rfl rfl lf_a0 rfl (Nat.le_trans (by decide) hd) rfl rfl (s_Main_trial h1) ?_
    refine lf_i2l ?_
    refine lf_last h ?_
    intro s2 h
    refine lf_goto ?_
    refine lf_blk B_Lw_trial_17 ?_
    refine lf_iconst lf_c0 ?_
    cases h
    exact lf_iret ⟨rfl, rfl, rfl⟩
theorem s_Lw_span {sc : Nat × (Nat → Int32)} {x1 : Int32} {x2 : Int32} {s : lf_S} {p : Int32 × lf_S} (h : f_Lw_span x1 x2 s = some p) : lf_ow sc 8 j_Lw_span [.ref 0, .int x1, .int x2, .ref 404] s (some (.int p.1)) p.2 := by
  unfold f_Lw_span at h
  refine lf_wr_cases h (fun x s2 k h1 h2 h3 => ?_) (fun v s2 h1 h => ?_)
  · refine lf_inW (D := 7) (cl' := fun _ => false) (ls := [.ref 0, .int x1, .int x2, .ref 404, mj_U]) rfl (lf_zi (by decide +kernel)) rfl ?_
    intro d hd cl
    refine lf_blk B_Lw_span_0 ?_
    refine lf_aload rfl ?_
    refine lf_iconst lf_c0 ?_
    refine lf_aload rfl ?_
    refine lf_iload rfl ?_
    refine lf_iload rfl ?_
    by_cases c : x = 0
    · subst c
      rw [if_pos rfl] at h2
      cases h2; subst h3
      refine lf_callVx (as := [.int x1, .int x2]) (rest := [.int (0 : Int32), .ref 404]) rfl rfl lf_a0 rfl (Nat.le_trans (by decide) hd) rfl rfl (by decide +kernel : mj_find (mj_hd j_Lw_span) 5 0 = some 13) (s_Main_span h1) ?_
      refine lf_blk B_Lw_span_13 ?_
      refine lf_astx (L := [.ref 0, .int x1, .int x2, .ref 404, mj_X]) rfl rfl rfl ?_
      refine lf_iconst lf_c1 ?_
      exact lf_iret ⟨rfl, rfl, rfl⟩
    rw [if_neg c] at h2
    cases h2
  · refine lf_inW (D := 7) (cl' := fun cl => cl) (ls := [.ref 0, .int x1, .int x2, .ref 404, mj_U]) rfl (lf_zi (by decide +kernel)) rfl ?_
    intro d hd cl
    refine lf_blk B_Lw_span_0 ?_
    refine lf_aload rfl ?_
    refine lf_iconst lf_c0 ?_
    refine lf_aload rfl ?_
    refine lf_iload rfl ?_
    refine lf_iload rfl ?_
    refine lf_callVni (as := [.int x1, .int x2]) (rest := [.int (0 : Int32), .ref 404]) rfl rfl lf_a0 rfl (Nat.le_trans (by decide) hd) rfl rfl (s_Main_span h1) ?_
    refine lf_i2l ?_
    refine lf_last h ?_
    intro s2 h
    refine lf_goto ?_
    refine lf_blk B_Lw_span_17 ?_
    refine lf_iconst lf_c0 ?_
    cases h
    exact lf_iret ⟨rfl, rfl, rfl⟩
theorem s_Lw_led {sc : Nat × (Nat → Int32)} {x1 : Int32} {x2 : Int32} {s : lf_S} {p : Int32 × lf_S} (h : f_Lw_led x1 x2 s = some p) : lf_ow sc 5 j_Lw_led [.ref 0, .int x1, .int x2, .ref 404] s (some (.int p.1)) p.2 := by
  unfold f_Lw_led at h
  refine lf_wr_cases h (fun x s2 k h1 h2 h3 => ?_) (fun v s2 h1 h => ?_)
  · refine lf_inW (D := 4) (cl' := fun _ => false) (ls := [.ref 0, .int x1, .int x2, .ref 404, mj_U]) rfl (lf_zi (by decide +kernel)) rfl ?_
    intro d hd cl
    refine lf_blk B_Lw_led_0 ?_
    refine lf_aload rfl ?_
    refine lf_iconst lf_c0 ?_
    refine lf_aload rfl ?_
    refine lf_iload rfl ?_
    refine lf_iload rfl ?_
    by_cases c : x = 3
    · subst c
      rw [if_pos rfl] at h2
      cases h2; subst h3
      refine lf_callVx (as := [.int x1, .int x2]) (rest := [.int (0 : Int32), .ref 404]) rfl rfl lf_a0 rfl (Nat.le_trans (by decide) hd) rfl rfl (by decide +kernel : mj_find (mj_hd j_Lw_led) 5 3 = some 13) (s_Main_led h1) ?_
      refine lf_blk B_Lw_led_13 ?_
      refine lf_astx (L := [.ref 0, .int x1, .int x2, .ref 404, mj_X]) rfl rfl rfl ?_
      refine lf_iconst lf_c1 ?_
      exact lf_iret ⟨rfl, rfl, rfl⟩
    rw [if_neg c] at h2
    cases h2
  · refine lf_inW (D := 4) (cl' := fun cl => cl) (ls := [.ref 0, .int x1, .int x2, .ref 404, mj_U]) rfl (lf_zi (by decide +kernel)) rfl ?_
    intro d hd cl
    refine lf_blk B_Lw_led_0 ?_
    refine lf_aload rfl ?_
    refine lf_iconst lf_c0 ?_
    refine lf_aload rfl ?_
    refine lf_iload rfl ?_
    refine lf_iload rfl ?_
    refine lf_callVni (as := [.int x1, .int x2]) (rest := [.int (0 : Int32), .ref 404]) rfl rfl lf_a0 rfl (Nat.le_trans (by decide) hd) rfl rfl (s_Main_led h1) ?_
    refine lf_i2l ?_
    refine lf_last h ?_
    intro s2 h
    refine lf_goto ?_
    refine lf_blk B_Lw_led_17 ?_
    refine lf_iconst lf_c0 ?_
    cases h
    exact lf_iret ⟨rfl, rfl, rfl⟩
theorem s_Lw_log {sc : Nat × (Nat → Int32)} {x1 : Int32} {x2 : Int32} {s : lf_S} {p : Int32 × lf_S} (h : f_Lw_log x1 x2 s = some p) : lf_ow sc 3 j_Lw_log [.ref 0, .int x1, .int x2, .ref 404] s (some (.int p.1)) p.2 := by
  unfold f_Lw_log at h
  refine lf_wr_cases h (fun x s2 k h1 h2 h3 => ?_) (fun v s2 h1 h => ?_)
  · refine lf_inW (D := 2) (cl' := fun _ => false) (ls := [.ref 0, .int x1, .int x2, .ref 404, mj_U]) rfl (lf_zi (by decide +kernel)) rfl ?_
    intro d hd cl
    refine lf_blk B_Lw_log_0 ?_
    refine lf_aload rfl ?_
    refine lf_iconst lf_c0 ?_
    refine lf_aload rfl ?_
    refine lf_iload rfl ?_
    refine lf_iload rfl ?_
    by_cases c : x = 2
    · subst c
      rw [if_pos rfl] at h2
      cases h2; subst h3
      refine lf_callVx (as := [.int x1, .int x2]) (rest := [.int (0 : Int32), .ref 404]) rfl rfl lf_a0 rfl (Nat.le_trans (by decide) hd) rfl rfl (by decide +kernel : mj_find (mj_hd j_Lw_log) 5 2 = some 13) (s_Main_log h1) ?_
      refine lf_blk B_Lw_log_13 ?_
      refine lf_astx (L := [.ref 0, .int x1, .int x2, .ref 404, mj_X]) rfl rfl rfl ?_
      refine lf_iconst lf_c1 ?_
      exact lf_iret ⟨rfl, rfl, rfl⟩
    rw [if_neg c] at h2
    cases h2
  · refine lf_inW (D := 2) (cl' := fun cl => cl) (ls := [.ref 0, .int x1, .int x2, .ref 404, mj_U]) rfl (lf_zi (by decide +kernel)) rfl ?_
    intro d hd cl
    refine lf_blk B_Lw_log_0 ?_
    refine lf_aload rfl ?_
    refine lf_iconst lf_c0 ?_
    refine lf_aload rfl ?_
    refine lf_iload rfl ?_
    refine lf_iload rfl ?_
    refine lf_callVni (as := [.int x1, .int x2]) (rest := [.int (0 : Int32), .ref 404]) rfl rfl lf_a0 rfl (Nat.le_trans (by decide) hd) rfl rfl (s_Main_log h1) ?_
    refine lf_i2l ?_
    refine lf_last h ?_
    intro s2 h
    refine lf_goto ?_
    refine lf_blk B_Lw_log_17 ?_
    refine lf_iconst lf_c0 ?_
    cases h
    exact lf_iret ⟨rfl, rfl, rfl⟩
theorem s_case_0 {sc : Nat × (Nat → Int32)} {d i : Nat} {Q : mj_Q} {s p : lf_S} {cl : Bool} {rc rs : Nat} (hd : 300 ≤ d) (hi : i + 6 ≤ sc.1) (hsc : sc.1 ≤ 3072) (hrc : 1 ≤ rc) (hrs : 6 ≤ rs) (h : f_case_0 (sc.2 (i + 1)) (sc.2 (i + 2)) (sc.2 (i + 3)) (sc.2 (i + 4)) (sc.2 (i + 5)) s = some p) (hk : ∀ cl' rc' rs', rc - 1 ≤ rc' → rs - 6 ≤ rs' → lf_wp sc d j_Lw_lawmain Q 3141 [.ref mj_SC, .ref 0, .ref 389, .ref 404, .int (nI i), mj_U, mj_U] [] (lf_hp p) cl' rc' rs') : lf_wp sc d j_Lw_lawmain Q 268 [.ref mj_SC, .ref 0, .ref 389, .ref 404, .int (nI i), mj_U, mj_U] [] (lf_hp s) cl rc rs := by
  unfold f_case_0 at h
  refine lf_blk B_Lw_lawmain_268 ?_
  refine lf_aload rfl ?_
  refine lf_aload rfl ?_
  refine lf_iload rfl ?_
  refine lf_iconst lf_c1 ?_
  refine lf_iadd ?_
  refine lf_scr (k := 1) hi hsc (by decide) rfl ?_
  refine lf_aload rfl ?_
  refine lf_iload rfl ?_
  refine lf_iconst lf_c2 ?_
  refine lf_iadd ?_
  refine lf_scr (k := 2) hi hsc (by decide) rfl ?_
  refine lf_aload rfl ?_
  refine lf_iload rfl ?_
  refine lf_iconst lf_c3 ?_
  refine lf_iadd ?_
  refine lf_scr (k := 3) hi hsc (by decide) rfl ?_
  refine lf_aload rfl ?_
  refine lf_iload rfl ?_
  refine lf_iconst lf_c4 ?_
  refine lf_iadd ?_
  refine lf_scr (k := 4) hi hsc (by decide) rfl ?_
  refine lf_aload rfl ?_
  refine lf_iload rfl ?_
  refine lf_iconst lf_c5 ?_
  refine lf_iadd ?_
  refine lf_scr (k := 5) hi hsc (by decide) rfl ?_
  refine lf_callVWi (as := [.int (sc.2 (i + 1)), .int (sc.2 (i + 2)), .int (sc.2 (i + 3)), .int (sc.2 (i + 4)), .int (sc.2 (i + 5))]) (rest := []) h rfl rfl lf_a0 rfl (Nat.le_trans (by decide) hd) rfl rfl (fun p1 h9 => s_Main_feed h9) ?_
  intro p1 h
  refine lf_aload rfl ?_
  refine lf_aload rfl ?_
  refine lf_iload rfl ?_
  refine lf_iconst lf_c1 ?_
  refine lf_iadd ?_
  refine lf_scr (k := 1) hi hsc (by decide) rfl ?_
  refine lf_aload rfl ?_
  refine lf_iload rfl ?_
  refine lf_iconst lf_c2 ?_
  refine lf_iadd ?_
  refine lf_scr (k := 2) hi hsc (by decide) rfl ?_
  refine lf_aload rfl ?_
  refine lf_iload rfl ?_
  refine lf_iconst lf_c3 ?_
  refine lf_iadd ?_
  refine lf_scr (k := 3) hi hsc (by decide) rfl ?_
  refine lf_aload rfl ?_
  refine lf_iload rfl ?_
  refine lf_iconst lf_c4 ?_
  refine lf_iadd ?_
  refine lf_scr (k := 4) hi hsc (by decide) rfl ?_
  refine lf_aload rfl ?_
  refine lf_iload rfl ?_
  refine lf_iconst lf_c5 ?_
  refine lf_iadd ?_
  refine lf_scr (k := 5) hi hsc (by decide) rfl ?_
  refine lf_callVWi (as := [.int (sc.2 (i + 1)), .int (sc.2 (i + 2)), .int (sc.2 (i + 3)), .int (sc.2 (i + 4)), .int (sc.2 (i + 5))]) (rest := [.int p1.1]) h rfl rfl lf_a389 rfl (Nat.le_trans (by decide) hd) rfl rfl (fun p2 h9 => s_Mod_feed h9) ?_
  intro p2 h
  refine lf_icmp_eq h (fun h => ?_) (fun h => ?_)
  · cases h
    exact mj_w_weak (ls := [.ref mj_SC, .ref 0, .ref 389, .ref 404, .int (nI i), mj_U, mj_U]) (lf_rl (lf_rl (lf_rl (lf_rl (lf_rl (lf_rl (lf_rl (lf_r0)))))))) (hk _ _ _ (by omega) (by omega))
  · refine lf_iconst lf_c0 ?_
    cases h
theorem s_case_1 {sc : Nat × (Nat → Int32)} {d i : Nat} {Q : mj_Q} {s p : lf_S} {cl : Bool} {rc rs : Nat} (hd : 300 ≤ d) (hi : i + 6 ≤ sc.1) (hsc : sc.1 ≤ 3072) (hrc : 1 ≤ rc) (hrs : 6 ≤ rs) (h : f_case_1 (sc.2 (i + 1)) s = some p) (hk : ∀ cl' rc' rs', rc - 1 ≤ rc' → rs - 6 ≤ rs' → lf_wp sc d j_Lw_lawmain Q 3141 [.ref mj_SC, .ref 0, .ref 389, .ref 404, .int (nI i), mj_U, mj_U] [] (lf_hp p) cl' rc' rs') : lf_wp sc d j_Lw_lawmain Q 341 [.ref mj_SC, .ref 0, .ref 389, .ref 404, .int (nI i), mj_U, mj_U] [] (lf_hp s) cl rc rs := by
  unfold f_case_1 at h
  refine lf_blk B_Lw_lawmain_341 ?_
  refine lf_aload rfl ?_
  refine lf_aload rfl ?_
  refine lf_iload rfl ?_
  refine lf_iconst lf_c1 ?_
  refine lf_iadd ?_
  refine lf_scr (k := 1) hi hsc (by decide) rfl ?_
  refine lf_callVWb (as := [.int (sc.2 (i + 1))]) (rest := []) h rfl rfl lf_a0 rfl (Nat.le_trans (by decide) hd) rfl rfl (fun p1 h9 => s_Main_end h9) ?_
  intro p1 h
  refine lf_aload rfl ?_
  refine lf_aload rfl ?_
  refine lf_iload rfl ?_
  refine lf_iconst lf_c1 ?_
  refine lf_iadd ?_
  refine lf_scr (k := 1) hi hsc (by decide) rfl ?_
  refine lf_callVWb (as := [.int (sc.2 (i + 1))]) (rest := [.int (lf_i p1.1)]) h rfl rfl lf_a389 rfl (Nat.le_trans (by decide) hd) rfl rfl (fun p2 h9 => s_Mod_end h9) ?_
  intro p2 h
  refine lf_icmpb_eq h (fun h => ?_) (fun h => ?_)
  · cases h
    exact mj_w_weak (ls := [.ref mj_SC, .ref 0, .ref 389, .ref 404, .int (nI i), mj_U, mj_U]) (lf_rl (lf_rl (lf_rl (lf_rl (lf_rl (lf_rl (lf_rl (lf_r0)))))))) (hk _ _ _ (by omega) (by omega))
  · refine lf_iconst lf_c0 ?_
    cases h
theorem s_case_2 {sc : Nat × (Nat → Int32)} {d i : Nat} {Q : mj_Q} {s p : lf_S} {cl : Bool} {rc rs : Nat} (hd : 300 ≤ d) (hi : i + 6 ≤ sc.1) (hsc : sc.1 ≤ 3072) (hrc : 1 ≤ rc) (hrs : 6 ≤ rs) (h : f_case_2 s = some p) (hk : ∀ cl' rc' rs', rc - 1 ≤ rc' → rs - 6 ≤ rs' → lf_wp sc d j_Lw_lawmain Q 3141 [.ref mj_SC, .ref 0, .ref 389, .ref 404, .int (nI i), mj_U, mj_U] [] (lf_hp p) cl' rc' rs') : lf_wp sc d j_Lw_lawmain Q 366 [.ref mj_SC, .ref 0, .ref 389, .ref 404, .int (nI i), mj_U, mj_U] [] (lf_hp s) cl rc rs := by
  unfold f_case_2 at h
  refine lf_blk B_Lw_lawmain_366 ?_
  refine lf_aload rfl ?_
  refine lf_aload rfl ?_
  refine lf_callSo (as := [.ref 0, .ref 404]) (rest := []) h rfl rfl (Nat.le_trans (by decide) hd) rfl rfl hrc hrs (fun p1 h9 => s_Lw_holt h9) ?_
  intro p1 p1c h
  refine lf_istore (L := fun y2 => [.ref mj_SC, .ref 0, .ref 389, .ref 404, .int (nI i), .int y2, mj_U]) h rfl rfl (fun _ => rfl) ?_
  intro y2 h
  refine lf_aload rfl ?_
  refine lf_callVWi (as := []) (rest := []) h rfl rfl lf_a389 rfl (Nat.le_trans (by decide) hd) rfl rfl (fun p3 h9 => s_Mod_holt h9) ?_
  intro p3 h
  refine lf_istore (L := fun y4 => [.ref mj_SC, .ref 0, .ref 389, .ref 404, .int (nI i), .int y2, .int y4]) h rfl rfl (fun _ => rfl) ?_
  intro y4 h
  refine lf_aload rfl ?_
  refine lf_callVRi (as := []) (rest := []) h rfl rfl lf_a389 rfl (Nat.le_trans (by decide) hd) rfl rfl (fun p5 h9 => s_Mod_thrown h9) ?_
  intro p5 h
  refine lf_iload rfl ?_
  refine lf_icmp_eq h (fun h => ?_) (fun h => ?_)
  · refine lf_blk B_Lw_lawmain_390 ?_
    refine lf_iload rfl ?_
    refine lf_if_ne h (fun h => ?_) (fun h => ?_)
    · refine lf_blk B_Lw_lawmain_407 ?_
      refine lf_goto ?_
      cases h
      exact mj_w_weak (ls := [.ref mj_SC, .ref 0, .ref 389, .ref 404, .int (nI i), mj_U, mj_U]) (lf_rl (lf_rl (lf_rl (lf_rl (lf_rl (lf_ri (lf_ri (lf_r0)))))))) (hk _ _ _ (by omega) (by omega))
    · refine lf_aload rfl ?_
      refine lf_iconst lf_c0 ?_
      refine lf_lald h lf_a404 ?_
      intro k6 h
      refine lf_iload rfl ?_
      refine lf_i2l ?_
      refine lf_lcmp ?_
      refine lf_if_eq h (fun h => ?_) (fun h => ?_)
      · refine lf_blk B_Lw_lawmain_407 ?_
        refine lf_goto ?_
        cases h
        exact mj_w_weak (ls := [.ref mj_SC, .ref 0, .ref 389, .ref 404, .int (nI i), mj_U, mj_U]) (lf_rl (lf_rl (lf_rl (lf_rl (lf_rl (lf_ri (lf_ri (lf_r0)))))))) (hk _ _ _ (by omega) (by omega))
      · refine lf_iconst lf_c0 ?_
        cases h
  · refine lf_iconst lf_c0 ?_
    cases h
theorem s_case_3 {sc : Nat × (Nat → Int32)} {d i : Nat} {Q : mj_Q} {s p : lf_S} {cl : Bool} {rc rs : Nat} (hd : 300 ≤ d) (hi : i + 6 ≤ sc.1) (hsc : sc.1 ≤ 3072) (hrc : 1 ≤ rc) (hrs : 6 ≤ rs) (h : f_case_3 s = some p) (hk : ∀ cl' rc' rs', rc - 1 ≤ rc' → rs - 6 ≤ rs' → lf_wp sc d j_Lw_lawmain Q 3141 [.ref mj_SC, .ref 0, .ref 389, .ref 404, .int (nI i), mj_U, mj_U] [] (lf_hp p) cl' rc' rs') : lf_wp sc d j_Lw_lawmain Q 410 [.ref mj_SC, .ref 0, .ref 389, .ref 404, .int (nI i), mj_U, mj_U] [] (lf_hp s) cl rc rs := by
  unfold f_case_3 at h
  refine lf_blk B_Lw_lawmain_410 ?_
  refine lf_aload rfl ?_
  refine lf_aload rfl ?_
  refine lf_callSo (as := [.ref 0, .ref 404]) (rest := []) h rfl rfl (Nat.le_trans (by decide) hd) rfl rfl hrc hrs (fun p1 h9 => s_Lw_law h9) ?_
  intro p1 p1c h
  refine lf_istore (L := fun y2 => [.ref mj_SC, .ref 0, .ref 389, .ref 404, .int (nI i), .int y2, mj_U]) h rfl rfl (fun _ => rfl) ?_
  intro y2 h
  refine lf_aload rfl ?_
  refine lf_callVWi (as := []) (rest := []) h rfl rfl lf_a389 rfl (Nat.le_trans (by decide) hd) rfl rfl (fun p3 h9 => s_Mod_law h9) ?_
  intro p3 h
  refine lf_istore (L := fun y4 => [.ref mj_SC, .ref 0, .ref 389, .ref 404, .int (nI i), .int y2, .int y4]) h rfl rfl (fun _ => rfl) ?_
  intro y4 h
  refine lf_aload rfl ?_
  refine lf_callVRi (as := []) (rest := []) h rfl rfl lf_a389 rfl (Nat.le_trans (by decide) hd) rfl rfl (fun p5 h9 => s_Mod_thrown h9) ?_
  intro p5 h
  refine lf_iload rfl ?_
  refine lf_icmp_eq h (fun h => ?_) (fun h => ?_)
  · refine lf_blk B_Lw_lawmain_434 ?_
    refine lf_iload rfl ?_
    refine lf_if_ne h (fun h => ?_) (fun h => ?_)
    · refine lf_blk B_Lw_lawmain_451 ?_
      refine lf_goto ?_
      cases h
      exact mj_w_weak (ls := [.ref mj_SC, .ref 0, .ref 389, .ref 404, .int (nI i), mj_U, mj_U]) (lf_rl (lf_rl (lf_rl (lf_rl (lf_rl (lf_ri (lf_ri (lf_r0)))))))) (hk _ _ _ (by omega) (by omega))
    · refine lf_aload rfl ?_
      refine lf_iconst lf_c0 ?_
      refine lf_lald h lf_a404 ?_
      intro k6 h
      refine lf_iload rfl ?_
      refine lf_i2l ?_
      refine lf_lcmp ?_
      refine lf_if_eq h (fun h => ?_) (fun h => ?_)
      · refine lf_blk B_Lw_lawmain_451 ?_
        refine lf_goto ?_
        cases h
        exact mj_w_weak (ls := [.ref mj_SC, .ref 0, .ref 389, .ref 404, .int (nI i), mj_U, mj_U]) (lf_rl (lf_rl (lf_rl (lf_rl (lf_rl (lf_ri (lf_ri (lf_r0)))))))) (hk _ _ _ (by omega) (by omega))
      · refine lf_iconst lf_c0 ?_
        cases h
  · refine lf_iconst lf_c0 ?_
    cases h
theorem s_case_4 {sc : Nat × (Nat → Int32)} {d i : Nat} {Q : mj_Q} {s p : lf_S} {cl : Bool} {rc rs : Nat} (hd : 300 ≤ d) (hi : i + 6 ≤ sc.1) (hsc : sc.1 ≤ 3072) (hrc : 1 ≤ rc) (hrs : 6 ≤ rs) (h : f_case_4 s = some p) (hk : ∀ cl' rc' rs', rc - 1 ≤ rc' → rs - 6 ≤ rs' → lf_wp sc d j_Lw_lawmain Q 3141 [.ref mj_SC, .ref 0, .ref 389, .ref 404, .int (nI i), mj_U, mj_U] [] (lf_hp p) cl' rc' rs') : lf_wp sc d j_Lw_lawmain Q 454 [.ref mj_SC, .ref 0, .ref 389, .ref 404, .int (nI i), mj_U, mj_U] [] (lf_hp s) cl rc rs := by
  unfold f_case_4 at h
  refine lf_blk B_Lw_lawmain_454 ?_
  refine lf_aload rfl ?_
  refine lf_callVRi (as := []) (rest := []) h rfl rfl lf_a0 rfl (Nat.le_trans (by decide) hd) rfl rfl (fun p1 h9 => s_Main_fault h9) ?_
  intro p1 h
  refine lf_aload rfl ?_
  refine lf_callVWi (as := []) (rest := [.int p1]) h rfl rfl lf_a389 rfl (Nat.le_trans (by decide) hd) rfl rfl (fun p2 h9 => s_Mod_fault h9) ?_
  intro p2 h
  refine lf_icmp_eq h (fun h => ?_) (fun h => ?_)
  · cases h
    exact mj_w_weak (ls := [.ref mj_SC, .ref 0, .ref 389, .ref 404, .int (nI i), mj_U, mj_U]) (lf_rl (lf_rl (lf_rl (lf_rl (lf_rl (lf_rl (lf_rl (lf_r0)))))))) (hk _ _ _ (by omega) (by omega))
  · refine lf_iconst lf_c0 ?_
    cases h
theorem s_case_5 {sc : Nat × (Nat → Int32)} {d i : Nat} {Q : mj_Q} {s p : lf_S} {cl : Bool} {rc rs : Nat} (hd : 300 ≤ d) (hi : i + 6 ≤ sc.1) (hsc : sc.1 ≤ 3072) (hrc : 1 ≤ rc) (hrs : 6 ≤ rs) (h : f_case_5 (sc.2 (i + 1)) (sc.2 (i + 2)) s = some p) (hk : ∀ cl' rc' rs', rc - 1 ≤ rc' → rs - 6 ≤ rs' → lf_wp sc d j_Lw_lawmain Q 3141 [.ref mj_SC, .ref 0, .ref 389, .ref 404, .int (nI i), mj_U, mj_U] [] (lf_hp p) cl' rc' rs') : lf_wp sc d j_Lw_lawmain Q 467 [.ref mj_SC, .ref 0, .ref 389, .ref 404, .int (nI i), mj_U, mj_U] [] (lf_hp s) cl rc rs := by
  unfold f_case_5 at h
  refine lf_blk B_Lw_lawmain_467 ?_
  refine lf_aload rfl ?_
  refine lf_aload rfl ?_
  refine lf_iload rfl ?_
  refine lf_iconst lf_c1 ?_
  refine lf_iadd ?_
  refine lf_scr (k := 1) hi hsc (by decide) rfl ?_
  refine lf_aload rfl ?_
  refine lf_iload rfl ?_
  refine lf_iconst lf_c2 ?_
  refine lf_iadd ?_
  refine lf_scr (k := 2) hi hsc (by decide) rfl ?_
  refine lf_aload rfl ?_
  refine lf_callSo (as := [.ref 0, .int (sc.2 (i + 1)), .int (sc.2 (i + 2)), .ref 404]) (rest := []) h rfl rfl (Nat.le_trans (by decide) hd) rfl rfl hrc hrs (fun p1 h9 => s_Lw_bed h9) ?_
  intro p1 p1c h
  refine lf_istore (L := fun y2 => [.ref mj_SC, .ref 0, .ref 389, .ref 404, .int (nI i), .int y2, mj_U]) h rfl rfl (fun _ => rfl) ?_
  intro y2 h
  refine lf_aload rfl ?_
  refine lf_aload rfl ?_
  refine lf_iload rfl ?_
  refine lf_iconst lf_c1 ?_
  refine lf_iadd ?_
  refine lf_scr (k := 1) hi hsc (by decide) rfl ?_
  refine lf_aload rfl ?_
  refine lf_iload rfl ?_
  refine lf_iconst lf_c2 ?_
  refine lf_iadd ?_
  refine lf_scr (k := 2) hi hsc (by decide) rfl ?_
  refine lf_callVWi (as := [.int (sc.2 (i + 1)), .int (sc.2 (i + 2))]) (rest := []) h rfl rfl lf_a389 rfl (Nat.le_trans (by decide) hd) rfl rfl (fun p3 h9 => s_Mod_bed h9) ?_
  intro p3 h
  refine lf_istore (L := fun y4 => [.ref mj_SC, .ref 0, .ref 389, .ref 404, .int (nI i), .int y2, .int y4]) h rfl rfl (fun _ => rfl) ?_
  intro y4 h
  refine lf_aload rfl ?_
  refine lf_callVRi (as := []) (rest := []) h rfl rfl lf_a389 rfl (Nat.le_trans (by decide) hd) rfl rfl (fun p5 h9 => s_Mod_thrown h9) ?_
  intro p5 h
  refine lf_iload rfl ?_
  refine lf_icmp_eq h (fun h => ?_) (fun h => ?_)
  · refine lf_blk B_Lw_lawmain_515 ?_
    refine lf_iload rfl ?_
    refine lf_if_ne h (fun h => ?_) (fun h => ?_)
    · refine lf_blk B_Lw_lawmain_532 ?_
      refine lf_goto ?_
      cases h
      exact mj_w_weak (ls := [.ref mj_SC, .ref 0, .ref 389, .ref 404, .int (nI i), mj_U, mj_U]) (lf_rl (lf_rl (lf_rl (lf_rl (lf_rl (lf_ri (lf_ri (lf_r0)))))))) (hk _ _ _ (by omega) (by omega))
    · refine lf_aload rfl ?_
      refine lf_iconst lf_c0 ?_
      refine lf_lald h lf_a404 ?_
      intro k6 h
      refine lf_iload rfl ?_
      refine lf_i2l ?_
      refine lf_lcmp ?_
      refine lf_if_eq h (fun h => ?_) (fun h => ?_)
      · refine lf_blk B_Lw_lawmain_532 ?_
        refine lf_goto ?_
        cases h
        exact mj_w_weak (ls := [.ref mj_SC, .ref 0, .ref 389, .ref 404, .int (nI i), mj_U, mj_U]) (lf_rl (lf_rl (lf_rl (lf_rl (lf_rl (lf_ri (lf_ri (lf_r0)))))))) (hk _ _ _ (by omega) (by omega))
      · refine lf_iconst lf_c0 ?_
        cases h
  · refine lf_iconst lf_c0 ?_
    cases h
theorem s_case_6 {sc : Nat × (Nat → Int32)} {d i : Nat} {Q : mj_Q} {s p : lf_S} {cl : Bool} {rc rs : Nat} (hd : 300 ≤ d) (hi : i + 6 ≤ sc.1) (hsc : sc.1 ≤ 3072) (hrc : 1 ≤ rc) (hrs : 6 ≤ rs) (h : f_case_6 (sc.2 (i + 1)) (sc.2 (i + 2)) s = some p) (hk : ∀ cl' rc' rs', rc - 1 ≤ rc' → rs - 6 ≤ rs' → lf_wp sc d j_Lw_lawmain Q 3141 [.ref mj_SC, .ref 0, .ref 389, .ref 404, .int (nI i), mj_U, mj_U] [] (lf_hp p) cl' rc' rs') : lf_wp sc d j_Lw_lawmain Q 535 [.ref mj_SC, .ref 0, .ref 389, .ref 404, .int (nI i), mj_U, mj_U] [] (lf_hp s) cl rc rs := by
  unfold f_case_6 at h
  refine lf_blk B_Lw_lawmain_535 ?_
  refine lf_aload rfl ?_
  refine lf_aload rfl ?_
  refine lf_iload rfl ?_
  refine lf_iconst lf_c1 ?_
  refine lf_iadd ?_
  refine lf_scr (k := 1) hi hsc (by decide) rfl ?_
  refine lf_aload rfl ?_
  refine lf_iload rfl ?_
  refine lf_iconst lf_c2 ?_
  refine lf_iadd ?_
  refine lf_scr (k := 2) hi hsc (by decide) rfl ?_
  refine lf_aload rfl ?_
  refine lf_callSo (as := [.ref 0, .int (sc.2 (i + 1)), .int (sc.2 (i + 2)), .ref 404]) (rest := []) h rfl rfl (Nat.le_trans (by decide) hd) rfl rfl hrc hrs (fun p1 h9 => s_Lw_basket h9) ?_
  intro p1 p1c h
  refine lf_istore (L := fun y2 => [.ref mj_SC, .ref 0, .ref 389, .ref 404, .int (nI i), .int y2, mj_U]) h rfl rfl (fun _ => rfl) ?_
  intro y2 h
  refine lf_aload rfl ?_
  refine lf_aload rfl ?_
  refine lf_iload rfl ?_
  refine lf_iconst lf_c1 ?_
  refine lf_iadd ?_
  refine lf_scr (k := 1) hi hsc (by decide) rfl ?_
  refine lf_aload rfl ?_
  refine lf_iload rfl ?_
  refine lf_iconst lf_c2 ?_
  refine lf_iadd ?_
  refine lf_scr (k := 2) hi hsc (by decide) rfl ?_
  refine lf_callVWi (as := [.int (sc.2 (i + 1)), .int (sc.2 (i + 2))]) (rest := []) h rfl rfl lf_a389 rfl (Nat.le_trans (by decide) hd) rfl rfl (fun p3 h9 => s_Mod_basket h9) ?_
  intro p3 h
  refine lf_istore (L := fun y4 => [.ref mj_SC, .ref 0, .ref 389, .ref 404, .int (nI i), .int y2, .int y4]) h rfl rfl (fun _ => rfl) ?_
  intro y4 h
  refine lf_aload rfl ?_
  refine lf_callVRi (as := []) (rest := []) h rfl rfl lf_a389 rfl (Nat.le_trans (by decide) hd) rfl rfl (fun p5 h9 => s_Mod_thrown h9) ?_
  intro p5 h
  refine lf_iload rfl ?_
  refine lf_icmp_eq h (fun h => ?_) (fun h => ?_)
  · refine lf_blk B_Lw_lawmain_583 ?_
    refine lf_iload rfl ?_
    refine lf_if_ne h (fun h => ?_) (fun h => ?_)
    · refine lf_blk B_Lw_lawmain_600 ?_
      refine lf_goto ?_
      cases h
      exact mj_w_weak (ls := [.ref mj_SC, .ref 0, .ref 389, .ref 404, .int (nI i), mj_U, mj_U]) (lf_rl (lf_rl (lf_rl (lf_rl (lf_rl (lf_ri (lf_ri (lf_r0)))))))) (hk _ _ _ (by omega) (by omega))
    · refine lf_aload rfl ?_
      refine lf_iconst lf_c0 ?_
      refine lf_lald h lf_a404 ?_
      intro k6 h
      refine lf_iload rfl ?_
      refine lf_i2l ?_
      refine lf_lcmp ?_
      refine lf_if_eq h (fun h => ?_) (fun h => ?_)
      · refine lf_blk B_Lw_lawmain_600 ?_
        refine lf_goto ?_
        cases h
        exact mj_w_weak (ls := [.ref mj_SC, .ref 0, .ref 389, .ref 404, .int (nI i), mj_U, mj_U]) (lf_rl (lf_rl (lf_rl (lf_rl (lf_rl (lf_ri (lf_ri (lf_r0)))))))) (hk _ _ _ (by omega) (by omega))
      · refine lf_iconst lf_c0 ?_
        cases h
  · refine lf_iconst lf_c0 ?_
    cases h
theorem s_case_7 {sc : Nat × (Nat → Int32)} {d i : Nat} {Q : mj_Q} {s p : lf_S} {cl : Bool} {rc rs : Nat} (hd : 300 ≤ d) (hi : i + 6 ≤ sc.1) (hsc : sc.1 ≤ 3072) (hrc : 1 ≤ rc) (hrs : 6 ≤ rs) (h : f_case_7 (sc.2 (i + 1)) (sc.2 (i + 2)) s = some p) (hk : ∀ cl' rc' rs', rc - 1 ≤ rc' → rs - 6 ≤ rs' → lf_wp sc d j_Lw_lawmain Q 3141 [.ref mj_SC, .ref 0, .ref 389, .ref 404, .int (nI i), mj_U, mj_U] [] (lf_hp p) cl' rc' rs') : lf_wp sc d j_Lw_lawmain Q 603 [.ref mj_SC, .ref 0, .ref 389, .ref 404, .int (nI i), mj_U, mj_U] [] (lf_hp s) cl rc rs := by
  unfold f_case_7 at h
  refine lf_blk B_Lw_lawmain_603 ?_
  refine lf_aload rfl ?_
  refine lf_aload rfl ?_
  refine lf_iload rfl ?_
  refine lf_iconst lf_c1 ?_
  refine lf_iadd ?_
  refine lf_scr (k := 1) hi hsc (by decide) rfl ?_
  refine lf_aload rfl ?_
  refine lf_iload rfl ?_
  refine lf_iconst lf_c2 ?_
  refine lf_iadd ?_
  refine lf_scr (k := 2) hi hsc (by decide) rfl ?_
  refine lf_aload rfl ?_
  refine lf_callSo (as := [.ref 0, .int (sc.2 (i + 1)), .int (sc.2 (i + 2)), .ref 404]) (rest := []) h rfl rfl (Nat.le_trans (by decide) hd) rfl rfl hrc hrs (fun p1 h9 => s_Lw_run h9) ?_
  intro p1 p1c h
  refine lf_istore (L := fun y2 => [.ref mj_SC, .ref 0, .ref 389, .ref 404, .int (nI i), .int y2, mj_U]) h rfl rfl (fun _ => rfl) ?_
  intro y2 h
  refine lf_aload rfl ?_
  refine lf_aload rfl ?_
  refine lf_iload rfl ?_
  refine lf_iconst lf_c1 ?_
  refine lf_iadd ?_
  refine lf_scr (k := 1) hi hsc (by decide) rfl ?_
  refine lf_aload rfl ?_
  refine lf_iload rfl ?_
  refine lf_iconst lf_c2 ?_
  refine lf_iadd ?_
  refine lf_scr (k := 2) hi hsc (by decide) rfl ?_
  refine lf_callVWi (as := [.int (sc.2 (i + 1)), .int (sc.2 (i + 2))]) (rest := []) h rfl rfl lf_a389 rfl (Nat.le_trans (by decide) hd) rfl rfl (fun p3 h9 => s_Mod_run h9) ?_
  intro p3 h
  refine lf_istore (L := fun y4 => [.ref mj_SC, .ref 0, .ref 389, .ref 404, .int (nI i), .int y2, .int y4]) h rfl rfl (fun _ => rfl) ?_
  intro y4 h
  refine lf_aload rfl ?_
  refine lf_callVRi (as := []) (rest := []) h rfl rfl lf_a389 rfl (Nat.le_trans (by decide) hd) rfl rfl (fun p5 h9 => s_Mod_thrown h9) ?_
  intro p5 h
  refine lf_iload rfl ?_
  refine lf_icmp_eq h (fun h => ?_) (fun h => ?_)
  · refine lf_blk B_Lw_lawmain_651 ?_
    refine lf_iload rfl ?_
    refine lf_if_ne h (fun h => ?_) (fun h => ?_)
    · refine lf_blk B_Lw_lawmain_668 ?_
      refine lf_goto ?_
      cases h
      exact mj_w_weak (ls := [.ref mj_SC, .ref 0, .ref 389, .ref 404, .int (nI i), mj_U, mj_U]) (lf_rl (lf_rl (lf_rl (lf_rl (lf_rl (lf_ri (lf_ri (lf_r0)))))))) (hk _ _ _ (by omega) (by omega))
    · refine lf_aload rfl ?_
      refine lf_iconst lf_c0 ?_
      refine lf_lald h lf_a404 ?_
      intro k6 h
      refine lf_iload rfl ?_
      refine lf_i2l ?_
      refine lf_lcmp ?_
      refine lf_if_eq h (fun h => ?_) (fun h => ?_)
      · refine lf_blk B_Lw_lawmain_668 ?_
        refine lf_goto ?_
        cases h
        exact mj_w_weak (ls := [.ref mj_SC, .ref 0, .ref 389, .ref 404, .int (nI i), mj_U, mj_U]) (lf_rl (lf_rl (lf_rl (lf_rl (lf_rl (lf_ri (lf_ri (lf_r0)))))))) (hk _ _ _ (by omega) (by omega))
      · refine lf_iconst lf_c0 ?_
        cases h
  · refine lf_iconst lf_c0 ?_
    cases h
theorem s_case_8 {sc : Nat × (Nat → Int32)} {d i : Nat} {Q : mj_Q} {s p : lf_S} {cl : Bool} {rc rs : Nat} (hd : 300 ≤ d) (hi : i + 6 ≤ sc.1) (hsc : sc.1 ≤ 3072) (hrc : 1 ≤ rc) (hrs : 6 ≤ rs) (h : f_case_8 (sc.2 (i + 1)) (sc.2 (i + 2)) (sc.2 (i + 3)) s = some p) (hk : ∀ cl' rc' rs', rc - 1 ≤ rc' → rs - 6 ≤ rs' → lf_wp sc d j_Lw_lawmain Q 3141 [.ref mj_SC, .ref 0, .ref 389, .ref 404, .int (nI i), mj_U, mj_U] [] (lf_hp p) cl' rc' rs') : lf_wp sc d j_Lw_lawmain Q 671 [.ref mj_SC, .ref 0, .ref 389, .ref 404, .int (nI i), mj_U, mj_U] [] (lf_hp s) cl rc rs := by
  unfold f_case_8 at h
  refine lf_blk B_Lw_lawmain_671 ?_
  refine lf_aload rfl ?_
  refine lf_aload rfl ?_
  refine lf_iload rfl ?_
  refine lf_iconst lf_c1 ?_
  refine lf_iadd ?_
  refine lf_scr (k := 1) hi hsc (by decide) rfl ?_
  refine lf_aload rfl ?_
  refine lf_iload rfl ?_
  refine lf_iconst lf_c2 ?_
  refine lf_iadd ?_
  refine lf_scr (k := 2) hi hsc (by decide) rfl ?_
  refine lf_aload rfl ?_
  refine lf_iload rfl ?_
  refine lf_iconst lf_c3 ?_
  refine lf_iadd ?_
  refine lf_scr (k := 3) hi hsc (by decide) rfl ?_
  refine lf_aload rfl ?_
  refine lf_callSo (as := [.ref 0, .int (sc.2 (i + 1)), .int (sc.2 (i + 2)), .int (sc.2 (i + 3)), .ref 404]) (rest := []) h rfl rfl (Nat.le_trans (by decide) hd) rfl rfl hrc hrs (fun p1 h9 => s_Lw_over h9) ?_
  intro p1 p1c h
  refine lf_istore (L := fun y2 => [.ref mj_SC, .ref 0, .ref 389, .ref 404, .int (nI i), .int y2, mj_U]) h rfl rfl (fun _ => rfl) ?_
  intro y2 h
  refine lf_aload rfl ?_
  refine lf_aload rfl ?_
  refine lf_iload rfl ?_
  refine lf_iconst lf_c1 ?_
  refine lf_iadd ?_
  refine lf_scr (k := 1) hi hsc (by decide) rfl ?_
  refine lf_aload rfl ?_
  refine lf_iload rfl ?_
  refine lf_iconst lf_c2 ?_
  refine lf_iadd ?_
  refine lf_scr (k := 2) hi hsc (by decide) rfl ?_
  refine lf_aload rfl ?_
  refine lf_iload rfl ?_
  refine lf_iconst lf_c3 ?_
  refine lf_iadd ?_
  refine lf_scr (k := 3) hi hsc (by decide) rfl ?_
  refine lf_callVWb (as := [.int (sc.2 (i + 1)), .int (sc.2 (i + 2)), .int (sc.2 (i + 3))]) (rest := []) h rfl rfl lf_a389 rfl (Nat.le_trans (by decide) hd) rfl rfl (fun p3 h9 => s_Mod_over h9) ?_
  intro p3 h
  refine lf_istoreb (L := fun e4 => [.ref mj_SC, .ref 0, .ref 389, .ref 404, .int (nI i), .int y2, .int (lf_i e4)]) h rfl rfl (fun _ => rfl) ?_
  intro e4 h
  refine lf_aload rfl ?_
  refine lf_callVRi (as := []) (rest := []) h rfl rfl lf_a389 rfl (Nat.le_trans (by decide) hd) rfl rfl (fun p5 h9 => s_Mod_thrown h9) ?_
  intro p5 h
  refine lf_iload rfl ?_
  refine lf_icmp_eq h (fun h => ?_) (fun h => ?_)
  · refine lf_blk B_Lw_lawmain_731 ?_
    refine lf_iload rfl ?_
    refine lf_if_ne h (fun h => ?_) (fun h => ?_)
    · refine lf_blk B_Lw_lawmain_755 ?_
      refine lf_goto ?_
      cases h
      exact mj_w_weak (ls := [.ref mj_SC, .ref 0, .ref 389, .ref 404, .int (nI i), mj_U, mj_U]) (lf_rl (lf_rl (lf_rl (lf_rl (lf_rl (lf_ri (lf_ri (lf_r0)))))))) (hk _ _ _ (by omega) (by omega))
    · refine lf_aload rfl ?_
      refine lf_iconst lf_c0 ?_
      refine lf_lald h lf_a404 ?_
      intro k6 h
      refine lf_iload rfl ?_
      refine lf_ifb_eq h (fun h => ?_) (fun h => ?_)
      · refine lf_blk B_Lw_lawmain_748 ?_
        refine lf_lconst (x := (0 : Int64)) (by decide +kernel) ?_
        refine lf_end ?_
        refine lf_blk B_Lw_lawmain_749 ?_
        refine lf_lcmp ?_
        refine lf_if_eq h (fun h => ?_) (fun h => ?_)
        · refine lf_blk B_Lw_lawmain_755 ?_
          refine lf_goto ?_
          cases h
          exact mj_w_weak (ls := [.ref mj_SC, .ref 0, .ref 389, .ref 404, .int (nI i), mj_U, mj_U]) (lf_rl (lf_rl (lf_rl (lf_rl (lf_rl (lf_ri (lf_ri (lf_r0)))))))) (hk _ _ _ (by omega) (by omega))
        · refine lf_iconst lf_c0 ?_
          cases h
      · refine lf_lconst (x := (1 : Int64)) (by decide +kernel) ?_
        refine lf_goto ?_
        refine lf_blk B_Lw_lawmain_749 ?_
        refine lf_lcmp ?_
        refine lf_if_eq h (fun h => ?_) (fun h => ?_)
        · refine lf_blk B_Lw_lawmain_755 ?_
          refine lf_goto ?_
          cases h
          exact mj_w_weak (ls := [.ref mj_SC, .ref 0, .ref 389, .ref 404, .int (nI i), mj_U, mj_U]) (lf_rl (lf_rl (lf_rl (lf_rl (lf_rl (lf_ri (lf_ri (lf_r0)))))))) (hk _ _ _ (by omega) (by omega))
        · refine lf_iconst lf_c0 ?_
          cases h
  · refine lf_iconst lf_c0 ?_
    cases h
theorem s_case_9 {sc : Nat × (Nat → Int32)} {d i : Nat} {Q : mj_Q} {s p : lf_S} {cl : Bool} {rc rs : Nat} (hd : 300 ≤ d) (hi : i + 6 ≤ sc.1) (hsc : sc.1 ≤ 3072) (hrc : 1 ≤ rc) (hrs : 6 ≤ rs) (h : f_case_9 (sc.2 (i + 1)) s = some p) (hk : ∀ cl' rc' rs', rc - 1 ≤ rc' → rs - 6 ≤ rs' → lf_wp sc d j_Lw_lawmain Q 3141 [.ref mj_SC, .ref 0, .ref 389, .ref 404, .int (nI i), mj_U, mj_U] [] (lf_hp p) cl' rc' rs') : lf_wp sc d j_Lw_lawmain Q 758 [.ref mj_SC, .ref 0, .ref 389, .ref 404, .int (nI i), mj_U, mj_U] [] (lf_hp s) cl rc rs := by
  unfold f_case_9 at h
  refine lf_blk B_Lw_lawmain_758 ?_
  refine lf_aload rfl ?_
  refine lf_aload rfl ?_
  refine lf_iload rfl ?_
  refine lf_iconst lf_c1 ?_
  refine lf_iadd ?_
  refine lf_scr (k := 1) hi hsc (by decide) rfl ?_
  refine lf_aload rfl ?_
  refine lf_callSo (as := [.ref 0, .int (sc.2 (i + 1)), .ref 404]) (rest := []) h rfl rfl (Nat.le_trans (by decide) hd) rfl rfl hrc hrs (fun p1 h9 => s_Lw_sound h9) ?_
  intro p1 p1c h
  refine lf_istore (L := fun y2 => [.ref mj_SC, .ref 0, .ref 389, .ref 404, .int (nI i), .int y2, mj_U]) h rfl rfl (fun _ => rfl) ?_
  intro y2 h
  refine lf_aload rfl ?_
  refine lf_aload rfl ?_
  refine lf_iload rfl ?_
  refine lf_iconst lf_c1 ?_
  refine lf_iadd ?_
  refine lf_scr (k := 1) hi hsc (by decide) rfl ?_
  refine lf_callVWb (as := [.int (sc.2 (i + 1))]) (rest := []) h rfl rfl lf_a389 rfl (Nat.le_trans (by decide) hd) rfl rfl (fun p3 h9 => s_Mod_sound h9) ?_
  intro p3 h
  refine lf_istoreb (L := fun e4 => [.ref mj_SC, .ref 0, .ref 389, .ref 404, .int (nI i), .int y2, .int (lf_i e4)]) h rfl rfl (fun _ => rfl) ?_
  intro e4 h
  refine lf_aload rfl ?_
  refine lf_callVRi (as := []) (rest := []) h rfl rfl lf_a389 rfl (Nat.le_trans (by decide) hd) rfl rfl (fun p5 h9 => s_Mod_thrown h9) ?_
  intro p5 h
  refine lf_iload rfl ?_
  refine lf_icmp_eq h (fun h => ?_) (fun h => ?_)
  · refine lf_blk B_Lw_lawmain_794 ?_
    refine lf_iload rfl ?_
    refine lf_if_ne h (fun h => ?_) (fun h => ?_)
    · refine lf_blk B_Lw_lawmain_818 ?_
      refine lf_goto ?_
      cases h
      exact mj_w_weak (ls := [.ref mj_SC, .ref 0, .ref 389, .ref 404, .int (nI i), mj_U, mj_U]) (lf_rl (lf_rl (lf_rl (lf_rl (lf_rl (lf_ri (lf_ri (lf_r0)))))))) (hk _ _ _ (by omega) (by omega))
    · refine lf_aload rfl ?_
      refine lf_iconst lf_c0 ?_
      refine lf_lald h lf_a404 ?_
      intro k6 h
      refine lf_iload rfl ?_
      refine lf_ifb_eq h (fun h => ?_) (fun h => ?_)
      · refine lf_blk B_Lw_lawmain_811 ?_
        refine lf_lconst (x := (0 : Int64)) (by decide +kernel) ?_
        refine lf_end ?_
        refine lf_blk B_Lw_lawmain_812 ?_
        refine lf_lcmp ?_
        refine lf_if_eq h (fun h => ?_) (fun h => ?_)
        · refine lf_blk B_Lw_lawmain_818 ?_
          refine lf_goto ?_
          cases h
          exact mj_w_weak (ls := [.ref mj_SC, .ref 0, .ref 389, .ref 404, .int (nI i), mj_U, mj_U]) (lf_rl (lf_rl (lf_rl (lf_rl (lf_rl (lf_ri (lf_ri (lf_r0)))))))) (hk _ _ _ (by omega) (by omega))
        · refine lf_iconst lf_c0 ?_
          cases h
      · refine lf_lconst (x := (1 : Int64)) (by decide +kernel) ?_
        refine lf_goto ?_
        refine lf_blk B_Lw_lawmain_812 ?_
        refine lf_lcmp ?_
        refine lf_if_eq h (fun h => ?_) (fun h => ?_)
        · refine lf_blk B_Lw_lawmain_818 ?_
          refine lf_goto ?_
          cases h
          exact mj_w_weak (ls := [.ref mj_SC, .ref 0, .ref 389, .ref 404, .int (nI i), mj_U, mj_U]) (lf_rl (lf_rl (lf_rl (lf_rl (lf_rl (lf_ri (lf_ri (lf_r0)))))))) (hk _ _ _ (by omega) (by omega))
        · refine lf_iconst lf_c0 ?_
          cases h
  · refine lf_iconst lf_c0 ?_
    cases h
theorem s_case_10 {sc : Nat × (Nat → Int32)} {d i : Nat} {Q : mj_Q} {s p : lf_S} {cl : Bool} {rc rs : Nat} (hd : 300 ≤ d) (hi : i + 6 ≤ sc.1) (hsc : sc.1 ≤ 3072) (hrc : 1 ≤ rc) (hrs : 6 ≤ rs) (h : f_case_10 (sc.2 (i + 1)) s = some p) (hk : ∀ cl' rc' rs', rc - 1 ≤ rc' → rs - 6 ≤ rs' → lf_wp sc d j_Lw_lawmain Q 3141 [.ref mj_SC, .ref 0, .ref 389, .ref 404, .int (nI i), mj_U, mj_U] [] (lf_hp p) cl' rc' rs') : lf_wp sc d j_Lw_lawmain Q 821 [.ref mj_SC, .ref 0, .ref 389, .ref 404, .int (nI i), mj_U, mj_U] [] (lf_hp s) cl rc rs := by
  unfold f_case_10 at h
  refine lf_blk B_Lw_lawmain_821 ?_
  refine lf_aload rfl ?_
  refine lf_aload rfl ?_
  refine lf_iload rfl ?_
  refine lf_iconst lf_c1 ?_
  refine lf_iadd ?_
  refine lf_scr (k := 1) hi hsc (by decide) rfl ?_
  refine lf_aload rfl ?_
  refine lf_callSo (as := [.ref 0, .int (sc.2 (i + 1)), .ref 404]) (rest := []) h rfl rfl (Nat.le_trans (by decide) hd) rfl rfl hrc hrs (fun p1 h9 => s_Lw_store h9) ?_
  intro p1 p1c h
  refine lf_istore (L := fun y2 => [.ref mj_SC, .ref 0, .ref 389, .ref 404, .int (nI i), .int y2, mj_U]) h rfl rfl (fun _ => rfl) ?_
  intro y2 h
  refine lf_aload rfl ?_
  refine lf_aload rfl ?_
  refine lf_iload rfl ?_
  refine lf_iconst lf_c1 ?_
  refine lf_iadd ?_
  refine lf_scr (k := 1) hi hsc (by decide) rfl ?_
  refine lf_callVWi (as := [.int (sc.2 (i + 1))]) (rest := []) h rfl rfl lf_a389 rfl (Nat.le_trans (by decide) hd) rfl rfl (fun p3 h9 => s_Mod_store h9) ?_
  intro p3 h
  refine lf_istore (L := fun y4 => [.ref mj_SC, .ref 0, .ref 389, .ref 404, .int (nI i), .int y2, .int y4]) h rfl rfl (fun _ => rfl) ?_
  intro y4 h
  refine lf_aload rfl ?_
  refine lf_callVRi (as := []) (rest := []) h rfl rfl lf_a389 rfl (Nat.le_trans (by decide) hd) rfl rfl (fun p5 h9 => s_Mod_thrown h9) ?_
  intro p5 h
  refine lf_iload rfl ?_
  refine lf_icmp_eq h (fun h => ?_) (fun h => ?_)
  · refine lf_blk B_Lw_lawmain_857 ?_
    refine lf_iload rfl ?_
    refine lf_if_ne h (fun h => ?_) (fun h => ?_)
    · refine lf_blk B_Lw_lawmain_874 ?_
      refine lf_goto ?_
      cases h
      exact mj_w_weak (ls := [.ref mj_SC, .ref 0, .ref 389, .ref 404, .int (nI i), mj_U, mj_U]) (lf_rl (lf_rl (lf_rl (lf_rl (lf_rl (lf_ri (lf_ri (lf_r0)))))))) (hk _ _ _ (by omega) (by omega))
    · refine lf_aload rfl ?_
      refine lf_iconst lf_c0 ?_
      refine lf_lald h lf_a404 ?_
      intro k6 h
      refine lf_iload rfl ?_
      refine lf_i2l ?_
      refine lf_lcmp ?_
      refine lf_if_eq h (fun h => ?_) (fun h => ?_)
      · refine lf_blk B_Lw_lawmain_874 ?_
        refine lf_goto ?_
        cases h
        exact mj_w_weak (ls := [.ref mj_SC, .ref 0, .ref 389, .ref 404, .int (nI i), mj_U, mj_U]) (lf_rl (lf_rl (lf_rl (lf_rl (lf_rl (lf_ri (lf_ri (lf_r0)))))))) (hk _ _ _ (by omega) (by omega))
      · refine lf_iconst lf_c0 ?_
        cases h
  · refine lf_iconst lf_c0 ?_
    cases h
theorem s_case_11 {sc : Nat × (Nat → Int32)} {d i : Nat} {Q : mj_Q} {s p : lf_S} {cl : Bool} {rc rs : Nat} (hd : 300 ≤ d) (hi : i + 6 ≤ sc.1) (hsc : sc.1 ≤ 3072) (hrc : 1 ≤ rc) (hrs : 6 ≤ rs) (h : f_case_11 (sc.2 (i + 1)) (sc.2 (i + 2)) s = some p) (hk : ∀ cl' rc' rs', rc - 1 ≤ rc' → rs - 6 ≤ rs' → lf_wp sc d j_Lw_lawmain Q 3141 [.ref mj_SC, .ref 0, .ref 389, .ref 404, .int (nI i), mj_U, mj_U] [] (lf_hp p) cl' rc' rs') : lf_wp sc d j_Lw_lawmain Q 877 [.ref mj_SC, .ref 0, .ref 389, .ref 404, .int (nI i), mj_U, mj_U] [] (lf_hp s) cl rc rs := by
  unfold f_case_11 at h
  refine lf_blk B_Lw_lawmain_877 ?_
  refine lf_aload rfl ?_
  refine lf_aload rfl ?_
  refine lf_iload rfl ?_
  refine lf_iconst lf_c1 ?_
  refine lf_iadd ?_
  refine lf_scr (k := 1) hi hsc (by decide) rfl ?_
  refine lf_aload rfl ?_
  refine lf_iload rfl ?_
  refine lf_iconst lf_c2 ?_
  refine lf_iadd ?_
  refine lf_scr (k := 2) hi hsc (by decide) rfl ?_
  refine lf_if_eq h (fun h => ?_) (fun h => ?_)
  · refine lf_blk B_Lw_lawmain_897 ?_
    refine lf_iconst lf_c0 ?_
    refine lf_end ?_
    refine lf_blk B_Lw_lawmain_898 ?_
    refine lf_aload rfl ?_
    refine lf_callSo (as := [.ref 0, .int (sc.2 (i + 1)), .int (0 : Int32), .ref 404]) (rest := []) h rfl rfl (Nat.le_trans (by decide) hd) rfl rfl hrc hrs (fun p1 h9 => s_Lw_hand h9) ?_
    intro p1 p1c h
    refine lf_istore (L := fun y2 => [.ref mj_SC, .ref 0, .ref 389, .ref 404, .int (nI i), .int y2, mj_U]) h rfl rfl (fun _ => rfl) ?_
    intro y2 h
    refine lf_aload rfl ?_
    refine lf_aload rfl ?_
    refine lf_iload rfl ?_
    refine lf_iconst lf_c1 ?_
    refine lf_iadd ?_
    refine lf_scr (k := 1) hi hsc (by decide) rfl ?_
    refine lf_aload rfl ?_
    refine lf_iload rfl ?_
    refine lf_iconst lf_c2 ?_
    refine lf_iadd ?_
    refine lf_scr (k := 2) hi hsc (by decide) rfl ?_
    refine lf_if_eq h (fun h => ?_) (fun h => ?_)
    · refine lf_blk B_Lw_lawmain_924 ?_
      refine lf_iconst lf_c0 ?_
      refine lf_end ?_
      refine lf_blk B_Lw_lawmain_925 ?_
      refine lf_callVWi (as := [.int (sc.2 (i + 1)), .int (0 : Int32)]) (rest := []) h rfl rfl lf_a389 rfl (Nat.le_trans (by decide) hd) rfl rfl (fun p3 h9 => s_Mod_hand h9) ?_
      intro p3 h
      refine lf_istore (L := fun y4 => [.ref mj_SC, .ref 0, .ref 389, .ref 404, .int (nI i), .int y2, .int y4]) h rfl rfl (fun _ => rfl) ?_
      intro y4 h
      refine lf_aload rfl ?_
      refine lf_callVRi (as := []) (rest := []) h rfl rfl lf_a389 rfl (Nat.le_trans (by decide) hd) rfl rfl (fun p5 h9 => s_Mod_thrown h9) ?_
      intro p5 h
      refine lf_iload rfl ?_
      refine lf_icmp_eq h (fun h => ?_) (fun h => ?_)
      · refine lf_blk B_Lw_lawmain_941 ?_
        refine lf_iload rfl ?_
        refine lf_if_ne h (fun h => ?_) (fun h => ?_)
        · refine lf_blk B_Lw_lawmain_958 ?_
          refine lf_goto ?_
          cases h
          exact mj_w_weak (ls := [.ref mj_SC, .ref 0, .ref 389, .ref 404, .int (nI i), mj_U, mj_U]) (lf_rl (lf_rl (lf_rl (lf_rl (lf_rl (lf_ri (lf_ri (lf_r0)))))))) (hk _ _ _ (by omega) (by omega))
        · refine lf_aload rfl ?_
          refine lf_iconst lf_c0 ?_
          refine lf_lald h lf_a404 ?_
          intro k6 h
          refine lf_iload rfl ?_
          refine lf_i2l ?_
          refine lf_lcmp ?_
          refine lf_if_eq h (fun h => ?_) (fun h => ?_)
          · refine lf_blk B_Lw_lawmain_958 ?_
            refine lf_goto ?_
            cases h
            exact mj_w_weak (ls := [.ref mj_SC, .ref 0, .ref 389, .ref 404, .int (nI i), mj_U, mj_U]) (lf_rl (lf_rl (lf_rl (lf_rl (lf_rl (lf_ri (lf_ri (lf_r0)))))))) (hk _ _ _ (by omega) (by omega))
          · refine lf_iconst lf_c0 ?_
            cases h
      · refine lf_iconst lf_c0 ?_
        cases h
    · refine lf_iconst lf_c1 ?_
      refine lf_goto ?_
      refine lf_blk B_Lw_lawmain_925 ?_
      refine lf_callVWi (as := [.int (sc.2 (i + 1)), .int (1 : Int32)]) (rest := []) h rfl rfl lf_a389 rfl (Nat.le_trans (by decide) hd) rfl rfl (fun p7 h9 => s_Mod_hand h9) ?_
      intro p7 h
      refine lf_istore (L := fun y8 => [.ref mj_SC, .ref 0, .ref 389, .ref 404, .int (nI i), .int y2, .int y8]) h rfl rfl (fun _ => rfl) ?_
      intro y8 h
      refine lf_aload rfl ?_
      refine lf_callVRi (as := []) (rest := []) h rfl rfl lf_a389 rfl (Nat.le_trans (by decide) hd) rfl rfl (fun p9 h9 => s_Mod_thrown h9) ?_
      intro p9 h
      refine lf_iload rfl ?_
      refine lf_icmp_eq h (fun h => ?_) (fun h => ?_)
      · refine lf_blk B_Lw_lawmain_941 ?_
        refine lf_iload rfl ?_
        refine lf_if_ne h (fun h => ?_) (fun h => ?_)
        · refine lf_blk B_Lw_lawmain_958 ?_
          refine lf_goto ?_
          cases h
          exact mj_w_weak (ls := [.ref mj_SC, .ref 0, .ref 389, .ref 404, .int (nI i), mj_U, mj_U]) (lf_rl (lf_rl (lf_rl (lf_rl (lf_rl (lf_ri (lf_ri (lf_r0)))))))) (hk _ _ _ (by omega) (by omega))
        · refine lf_aload rfl ?_
          refine lf_iconst lf_c0 ?_
          refine lf_lald h lf_a404 ?_
          intro k10 h
          refine lf_iload rfl ?_
          refine lf_i2l ?_
          refine lf_lcmp ?_
          refine lf_if_eq h (fun h => ?_) (fun h => ?_)
          · refine lf_blk B_Lw_lawmain_958 ?_
            refine lf_goto ?_
            cases h
            exact mj_w_weak (ls := [.ref mj_SC, .ref 0, .ref 389, .ref 404, .int (nI i), mj_U, mj_U]) (lf_rl (lf_rl (lf_rl (lf_rl (lf_rl (lf_ri (lf_ri (lf_r0)))))))) (hk _ _ _ (by omega) (by omega))
          · refine lf_iconst lf_c0 ?_
            cases h
      · refine lf_iconst lf_c0 ?_
        cases h
  · refine lf_iconst lf_c1 ?_
    refine lf_goto ?_
    refine lf_blk B_Lw_lawmain_898 ?_
    refine lf_aload rfl ?_
    refine lf_callSo (as := [.ref 0, .int (sc.2 (i + 1)), .int (1 : Int32), .ref 404]) (rest := []) h rfl rfl (Nat.le_trans (by decide) hd) rfl rfl hrc hrs (fun p11 h9 => s_Lw_hand h9) ?_
    intro p11 p11c h
    refine lf_istore (L := fun y12 => [.ref mj_SC, .ref 0, .ref 389, .ref 404, .int (nI i), .int y12, mj_U]) h rfl rfl (fun _ => rfl) ?_
    intro y12 h
    refine lf_aload rfl ?_
    refine lf_aload rfl ?_
    refine lf_iload rfl ?_
    refine lf_iconst lf_c1 ?_
    refine lf_iadd ?_
    refine lf_scr (k := 1) hi hsc (by decide) rfl ?_
    refine lf_aload rfl ?_
    refine lf_iload rfl ?_
    refine lf_iconst lf_c2 ?_
    refine lf_iadd ?_
    refine lf_scr (k := 2) hi hsc (by decide) rfl ?_
    refine lf_if_eq h (fun h => ?_) (fun h => ?_)
    · refine lf_blk B_Lw_lawmain_924 ?_
      refine lf_iconst lf_c0 ?_
      refine lf_end ?_
      refine lf_blk B_Lw_lawmain_925 ?_
      refine lf_callVWi (as := [.int (sc.2 (i + 1)), .int (0 : Int32)]) (rest := []) h rfl rfl lf_a389 rfl (Nat.le_trans (by decide) hd) rfl rfl (fun p13 h9 => s_Mod_hand h9) ?_
      intro p13 h
      refine lf_istore (L := fun y14 => [.ref mj_SC, .ref 0, .ref 389, .ref 404, .int (nI i), .int y12, .int y14]) h rfl rfl (fun _ => rfl) ?_
      intro y14 h
      refine lf_aload rfl ?_
      refine lf_callVRi (as := []) (rest := []) h rfl rfl lf_a389 rfl (Nat.le_trans (by decide) hd) rfl rfl (fun p15 h9 => s_Mod_thrown h9) ?_
      intro p15 h
      refine lf_iload rfl ?_
      refine lf_icmp_eq h (fun h => ?_) (fun h => ?_)
      · refine lf_blk B_Lw_lawmain_941 ?_
        refine lf_iload rfl ?_
        refine lf_if_ne h (fun h => ?_) (fun h => ?_)
        · refine lf_blk B_Lw_lawmain_958 ?_
          refine lf_goto ?_
          cases h
          exact mj_w_weak (ls := [.ref mj_SC, .ref 0, .ref 389, .ref 404, .int (nI i), mj_U, mj_U]) (lf_rl (lf_rl (lf_rl (lf_rl (lf_rl (lf_ri (lf_ri (lf_r0)))))))) (hk _ _ _ (by omega) (by omega))
        · refine lf_aload rfl ?_
          refine lf_iconst lf_c0 ?_
          refine lf_lald h lf_a404 ?_
          intro k16 h
          refine lf_iload rfl ?_
          refine lf_i2l ?_
          refine lf_lcmp ?_
          refine lf_if_eq h (fun h => ?_) (fun h => ?_)
          · refine lf_blk B_Lw_lawmain_958 ?_
            refine lf_goto ?_
            cases h
            exact mj_w_weak (ls := [.ref mj_SC, .ref 0, .ref 389, .ref 404, .int (nI i), mj_U, mj_U]) (lf_rl (lf_rl (lf_rl (lf_rl (lf_rl (lf_ri (lf_ri (lf_r0)))))))) (hk _ _ _ (by omega) (by omega))
          · refine lf_iconst lf_c0 ?_
            cases h
      · refine lf_iconst lf_c0 ?_
        cases h
    · refine lf_iconst lf_c1 ?_
      refine lf_goto ?_
      refine lf_blk B_Lw_lawmain_925 ?_
      refine lf_callVWi (as := [.int (sc.2 (i + 1)), .int (1 : Int32)]) (rest := []) h rfl rfl lf_a389 rfl (Nat.le_trans (by decide) hd) rfl rfl (fun p17 h9 => s_Mod_hand h9) ?_
      intro p17 h
      refine lf_istore (L := fun y18 => [.ref mj_SC, .ref 0, .ref 389, .ref 404, .int (nI i), .int y12, .int y18]) h rfl rfl (fun _ => rfl) ?_
      intro y18 h
      refine lf_aload rfl ?_
      refine lf_callVRi (as := []) (rest := []) h rfl rfl lf_a389 rfl (Nat.le_trans (by decide) hd) rfl rfl (fun p19 h9 => s_Mod_thrown h9) ?_
      intro p19 h
      refine lf_iload rfl ?_
      refine lf_icmp_eq h (fun h => ?_) (fun h => ?_)
      · refine lf_blk B_Lw_lawmain_941 ?_
        refine lf_iload rfl ?_
        refine lf_if_ne h (fun h => ?_) (fun h => ?_)
        · refine lf_blk B_Lw_lawmain_958 ?_
          refine lf_goto ?_
          cases h
          exact mj_w_weak (ls := [.ref mj_SC, .ref 0, .ref 389, .ref 404, .int (nI i), mj_U, mj_U]) (lf_rl (lf_rl (lf_rl (lf_rl (lf_rl (lf_ri (lf_ri (lf_r0)))))))) (hk _ _ _ (by omega) (by omega))
        · refine lf_aload rfl ?_
          refine lf_iconst lf_c0 ?_
          refine lf_lald h lf_a404 ?_
          intro k20 h
          refine lf_iload rfl ?_
          refine lf_i2l ?_
          refine lf_lcmp ?_
          refine lf_if_eq h (fun h => ?_) (fun h => ?_)
          · refine lf_blk B_Lw_lawmain_958 ?_
            refine lf_goto ?_
            cases h
            exact mj_w_weak (ls := [.ref mj_SC, .ref 0, .ref 389, .ref 404, .int (nI i), mj_U, mj_U]) (lf_rl (lf_rl (lf_rl (lf_rl (lf_rl (lf_ri (lf_ri (lf_r0)))))))) (hk _ _ _ (by omega) (by omega))
          · refine lf_iconst lf_c0 ?_
            cases h
      · refine lf_iconst lf_c0 ?_
        cases h
theorem s_case_12 {sc : Nat × (Nat → Int32)} {d i : Nat} {Q : mj_Q} {s p : lf_S} {cl : Bool} {rc rs : Nat} (hd : 300 ≤ d) (hi : i + 6 ≤ sc.1) (hsc : sc.1 ≤ 3072) (hrc : 1 ≤ rc) (hrs : 6 ≤ rs) (h : f_case_12 (sc.2 (i + 1)) (sc.2 (i + 2)) s = some p) (hk : ∀ cl' rc' rs', rc - 1 ≤ rc' → rs - 6 ≤ rs' → lf_wp sc d j_Lw_lawmain Q 3141 [.ref mj_SC, .ref 0, .ref 389, .ref 404, .int (nI i), mj_U, mj_U] [] (lf_hp p) cl' rc' rs') : lf_wp sc d j_Lw_lawmain Q 961 [.ref mj_SC, .ref 0, .ref 389, .ref 404, .int (nI i), mj_U, mj_U] [] (lf_hp s) cl rc rs := by
  unfold f_case_12 at h
  refine lf_blk B_Lw_lawmain_961 ?_
  refine lf_aload rfl ?_
  refine lf_aload rfl ?_
  refine lf_iload rfl ?_
  refine lf_iconst lf_c1 ?_
  refine lf_iadd ?_
  refine lf_scr (k := 1) hi hsc (by decide) rfl ?_
  refine lf_aload rfl ?_
  refine lf_iload rfl ?_
  refine lf_iconst lf_c2 ?_
  refine lf_iadd ?_
  refine lf_scr (k := 2) hi hsc (by decide) rfl ?_
  refine lf_aload rfl ?_
  refine lf_callSo (as := [.ref 0, .int (sc.2 (i + 1)), .int (sc.2 (i + 2)), .ref 404]) (rest := []) h rfl rfl (Nat.le_trans (by decide) hd) rfl rfl hrc hrs (fun p1 h9 => s_Lw_order h9) ?_
  intro p1 p1c h
  refine lf_istore (L := fun y2 => [.ref mj_SC, .ref 0, .ref 389, .ref 404, .int (nI i), .int y2, mj_U]) h rfl rfl (fun _ => rfl) ?_
  intro y2 h
  refine lf_aload rfl ?_
  refine lf_aload rfl ?_
  refine lf_iload rfl ?_
  refine lf_iconst lf_c1 ?_
  refine lf_iadd ?_
  refine lf_scr (k := 1) hi hsc (by decide) rfl ?_
  refine lf_aload rfl ?_
  refine lf_iload rfl ?_
  refine lf_iconst lf_c2 ?_
  refine lf_iadd ?_
  refine lf_scr (k := 2) hi hsc (by decide) rfl ?_
  refine lf_callVWi (as := [.int (sc.2 (i + 1)), .int (sc.2 (i + 2))]) (rest := []) h rfl rfl lf_a389 rfl (Nat.le_trans (by decide) hd) rfl rfl (fun p3 h9 => s_Mod_order h9) ?_
  intro p3 h
  refine lf_istore (L := fun y4 => [.ref mj_SC, .ref 0, .ref 389, .ref 404, .int (nI i), .int y2, .int y4]) h rfl rfl (fun _ => rfl) ?_
  intro y4 h
  refine lf_aload rfl ?_
  refine lf_callVRi (as := []) (rest := []) h rfl rfl lf_a389 rfl (Nat.le_trans (by decide) hd) rfl rfl (fun p5 h9 => s_Mod_thrown h9) ?_
  intro p5 h
  refine lf_iload rfl ?_
  refine lf_icmp_eq h (fun h => ?_) (fun h => ?_)
  · refine lf_blk B_Lw_lawmain_1009 ?_
    refine lf_iload rfl ?_
    refine lf_if_ne h (fun h => ?_) (fun h => ?_)
    · refine lf_blk B_Lw_lawmain_1026 ?_
      refine lf_goto ?_
      cases h
      exact mj_w_weak (ls := [.ref mj_SC, .ref 0, .ref 389, .ref 404, .int (nI i), mj_U, mj_U]) (lf_rl (lf_rl (lf_rl (lf_rl (lf_rl (lf_ri (lf_ri (lf_r0)))))))) (hk _ _ _ (by omega) (by omega))
    · refine lf_aload rfl ?_
      refine lf_iconst lf_c0 ?_
      refine lf_lald h lf_a404 ?_
      intro k6 h
      refine lf_iload rfl ?_
      refine lf_i2l ?_
      refine lf_lcmp ?_
      refine lf_if_eq h (fun h => ?_) (fun h => ?_)
      · refine lf_blk B_Lw_lawmain_1026 ?_
        refine lf_goto ?_
        cases h
        exact mj_w_weak (ls := [.ref mj_SC, .ref 0, .ref 389, .ref 404, .int (nI i), mj_U, mj_U]) (lf_rl (lf_rl (lf_rl (lf_rl (lf_rl (lf_ri (lf_ri (lf_r0)))))))) (hk _ _ _ (by omega) (by omega))
      · refine lf_iconst lf_c0 ?_
        cases h
  · refine lf_iconst lf_c0 ?_
    cases h
theorem s_case_13 {sc : Nat × (Nat → Int32)} {d i : Nat} {Q : mj_Q} {s p : lf_S} {cl : Bool} {rc rs : Nat} (hd : 300 ≤ d) (hi : i + 6 ≤ sc.1) (hsc : sc.1 ≤ 3072) (hrc : 1 ≤ rc) (hrs : 6 ≤ rs) (h : f_case_13 (sc.2 (i + 1)) s = some p) (hk : ∀ cl' rc' rs', rc - 1 ≤ rc' → rs - 6 ≤ rs' → lf_wp sc d j_Lw_lawmain Q 3141 [.ref mj_SC, .ref 0, .ref 389, .ref 404, .int (nI i), mj_U, mj_U] [] (lf_hp p) cl' rc' rs') : lf_wp sc d j_Lw_lawmain Q 1029 [.ref mj_SC, .ref 0, .ref 389, .ref 404, .int (nI i), mj_U, mj_U] [] (lf_hp s) cl rc rs := by
  unfold f_case_13 at h
  refine lf_blk B_Lw_lawmain_1029 ?_
  refine lf_aload rfl ?_
  refine lf_aload rfl ?_
  refine lf_iload rfl ?_
  refine lf_iconst lf_c1 ?_
  refine lf_iadd ?_
  refine lf_scr (k := 1) hi hsc (by decide) rfl ?_
  refine lf_aload rfl ?_
  refine lf_callSo (as := [.ref 0, .int (sc.2 (i + 1)), .ref 404]) (rest := []) h rfl rfl (Nat.le_trans (by decide) hd) rfl rfl hrc hrs (fun p1 h9 => s_Lw_years h9) ?_
  intro p1 p1c h
  refine lf_istore (L := fun y2 => [.ref mj_SC, .ref 0, .ref 389, .ref 404, .int (nI i), .int y2, mj_U]) h rfl rfl (fun _ => rfl) ?_
  intro y2 h
  refine lf_aload rfl ?_
  refine lf_aload rfl ?_
  refine lf_iload rfl ?_
  refine lf_iconst lf_c1 ?_
  refine lf_iadd ?_
  refine lf_scr (k := 1) hi hsc (by decide) rfl ?_
  refine lf_callVWi (as := [.int (sc.2 (i + 1))]) (rest := []) h rfl rfl lf_a389 rfl (Nat.le_trans (by decide) hd) rfl rfl (fun p3 h9 => s_Mod_years h9) ?_
  intro p3 h
  refine lf_istore (L := fun y4 => [.ref mj_SC, .ref 0, .ref 389, .ref 404, .int (nI i), .int y2, .int y4]) h rfl rfl (fun _ => rfl) ?_
  intro y4 h
  refine lf_aload rfl ?_
  refine lf_callVRi (as := []) (rest := []) h rfl rfl lf_a389 rfl (Nat.le_trans (by decide) hd) rfl rfl (fun p5 h9 => s_Mod_thrown h9) ?_
  intro p5 h
  refine lf_iload rfl ?_
  refine lf_icmp_eq h (fun h => ?_) (fun h => ?_)
  · refine lf_blk B_Lw_lawmain_1065 ?_
    refine lf_iload rfl ?_
    refine lf_if_ne h (fun h => ?_) (fun h => ?_)
    · refine lf_blk B_Lw_lawmain_1082 ?_
      refine lf_goto ?_
      cases h
      exact mj_w_weak (ls := [.ref mj_SC, .ref 0, .ref 389, .ref 404, .int (nI i), mj_U, mj_U]) (lf_rl (lf_rl (lf_rl (lf_rl (lf_rl (lf_ri (lf_ri (lf_r0)))))))) (hk _ _ _ (by omega) (by omega))
    · refine lf_aload rfl ?_
      refine lf_iconst lf_c0 ?_
      refine lf_lald h lf_a404 ?_
      intro k6 h
      refine lf_iload rfl ?_
      refine lf_i2l ?_
      refine lf_lcmp ?_
      refine lf_if_eq h (fun h => ?_) (fun h => ?_)
      · refine lf_blk B_Lw_lawmain_1082 ?_
        refine lf_goto ?_
        cases h
        exact mj_w_weak (ls := [.ref mj_SC, .ref 0, .ref 389, .ref 404, .int (nI i), mj_U, mj_U]) (lf_rl (lf_rl (lf_rl (lf_rl (lf_rl (lf_ri (lf_ri (lf_r0)))))))) (hk _ _ _ (by omega) (by omega))
      · refine lf_iconst lf_c0 ?_
        cases h
  · refine lf_iconst lf_c0 ?_
    cases h
theorem s_case_14 {sc : Nat × (Nat → Int32)} {d i : Nat} {Q : mj_Q} {s p : lf_S} {cl : Bool} {rc rs : Nat} (hd : 300 ≤ d) (hi : i + 6 ≤ sc.1) (hsc : sc.1 ≤ 3072) (hrc : 1 ≤ rc) (hrs : 6 ≤ rs) (h : f_case_14 (sc.2 (i + 1)) s = some p) (hk : ∀ cl' rc' rs', rc - 1 ≤ rc' → rs - 6 ≤ rs' → lf_wp sc d j_Lw_lawmain Q 3141 [.ref mj_SC, .ref 0, .ref 389, .ref 404, .int (nI i), mj_U, mj_U] [] (lf_hp p) cl' rc' rs') : lf_wp sc d j_Lw_lawmain Q 1085 [.ref mj_SC, .ref 0, .ref 389, .ref 404, .int (nI i), mj_U, mj_U] [] (lf_hp s) cl rc rs := by
  unfold f_case_14 at h
  refine lf_blk B_Lw_lawmain_1085 ?_
  refine lf_aload rfl ?_
  refine lf_aload rfl ?_
  refine lf_iload rfl ?_
  refine lf_iconst lf_c1 ?_
  refine lf_iadd ?_
  refine lf_scr (k := 1) hi hsc (by decide) rfl ?_
  refine lf_aload rfl ?_
  refine lf_callSo (as := [.ref 0, .int (sc.2 (i + 1)), .ref 404]) (rest := []) h rfl rfl (Nat.le_trans (by decide) hd) rfl rfl hrc hrs (fun p1 h9 => s_Lw_cut h9) ?_
  intro p1 p1c h
  refine lf_istore (L := fun y2 => [.ref mj_SC, .ref 0, .ref 389, .ref 404, .int (nI i), .int y2, mj_U]) h rfl rfl (fun _ => rfl) ?_
  intro y2 h
  refine lf_aload rfl ?_
  refine lf_aload rfl ?_
  refine lf_iload rfl ?_
  refine lf_iconst lf_c1 ?_
  refine lf_iadd ?_
  refine lf_scr (k := 1) hi hsc (by decide) rfl ?_
  refine lf_callVWi (as := [.int (sc.2 (i + 1))]) (rest := []) h rfl rfl lf_a389 rfl (Nat.le_trans (by decide) hd) rfl rfl (fun p3 h9 => s_Mod_cut h9) ?_
  intro p3 h
  refine lf_istore (L := fun y4 => [.ref mj_SC, .ref 0, .ref 389, .ref 404, .int (nI i), .int y2, .int y4]) h rfl rfl (fun _ => rfl) ?_
  intro y4 h
  refine lf_aload rfl ?_
  refine lf_callVRi (as := []) (rest := []) h rfl rfl lf_a389 rfl (Nat.le_trans (by decide) hd) rfl rfl (fun p5 h9 => s_Mod_thrown h9) ?_
  intro p5 h
  refine lf_iload rfl ?_
  refine lf_icmp_eq h (fun h => ?_) (fun h => ?_)
  · refine lf_blk B_Lw_lawmain_1121 ?_
    refine lf_iload rfl ?_
    refine lf_if_ne h (fun h => ?_) (fun h => ?_)
    · refine lf_blk B_Lw_lawmain_1138 ?_
      refine lf_goto ?_
      cases h
      exact mj_w_weak (ls := [.ref mj_SC, .ref 0, .ref 389, .ref 404, .int (nI i), mj_U, mj_U]) (lf_rl (lf_rl (lf_rl (lf_rl (lf_rl (lf_ri (lf_ri (lf_r0)))))))) (hk _ _ _ (by omega) (by omega))
    · refine lf_aload rfl ?_
      refine lf_iconst lf_c0 ?_
      refine lf_lald h lf_a404 ?_
      intro k6 h
      refine lf_iload rfl ?_
      refine lf_i2l ?_
      refine lf_lcmp ?_
      refine lf_if_eq h (fun h => ?_) (fun h => ?_)
      · refine lf_blk B_Lw_lawmain_1138 ?_
        refine lf_goto ?_
        cases h
        exact mj_w_weak (ls := [.ref mj_SC, .ref 0, .ref 389, .ref 404, .int (nI i), mj_U, mj_U]) (lf_rl (lf_rl (lf_rl (lf_rl (lf_rl (lf_ri (lf_ri (lf_r0)))))))) (hk _ _ _ (by omega) (by omega))
      · refine lf_iconst lf_c0 ?_
        cases h
  · refine lf_iconst lf_c0 ?_
    cases h
theorem s_case_15 {sc : Nat × (Nat → Int32)} {d i : Nat} {Q : mj_Q} {s p : lf_S} {cl : Bool} {rc rs : Nat} (hd : 300 ≤ d) (hi : i + 6 ≤ sc.1) (hsc : sc.1 ≤ 3072) (hrc : 1 ≤ rc) (hrs : 6 ≤ rs) (h : f_case_15 (sc.2 (i + 1)) (sc.2 (i + 2)) s = some p) (hk : ∀ cl' rc' rs', rc - 1 ≤ rc' → rs - 6 ≤ rs' → lf_wp sc d j_Lw_lawmain Q 3141 [.ref mj_SC, .ref 0, .ref 389, .ref 404, .int (nI i), mj_U, mj_U] [] (lf_hp p) cl' rc' rs') : lf_wp sc d j_Lw_lawmain Q 1141 [.ref mj_SC, .ref 0, .ref 389, .ref 404, .int (nI i), mj_U, mj_U] [] (lf_hp s) cl rc rs := by
  unfold f_case_15 at h
  refine lf_blk B_Lw_lawmain_1141 ?_
  refine lf_aload rfl ?_
  refine lf_aload rfl ?_
  refine lf_iload rfl ?_
  refine lf_iconst lf_c1 ?_
  refine lf_iadd ?_
  refine lf_scr (k := 1) hi hsc (by decide) rfl ?_
  refine lf_aload rfl ?_
  refine lf_iload rfl ?_
  refine lf_iconst lf_c2 ?_
  refine lf_iadd ?_
  refine lf_scr (k := 2) hi hsc (by decide) rfl ?_
  refine lf_aload rfl ?_
  refine lf_callSo (as := [.ref 0, .int (sc.2 (i + 1)), .int (sc.2 (i + 2)), .ref 404]) (rest := []) h rfl rfl (Nat.le_trans (by decide) hd) rfl rfl hrc hrs (fun p1 h9 => s_Lw_buy h9) ?_
  intro p1 p1c h
  refine lf_istore (L := fun y2 => [.ref mj_SC, .ref 0, .ref 389, .ref 404, .int (nI i), .int y2, mj_U]) h rfl rfl (fun _ => rfl) ?_
  intro y2 h
  refine lf_aload rfl ?_
  refine lf_aload rfl ?_
  refine lf_iload rfl ?_
  refine lf_iconst lf_c1 ?_
  refine lf_iadd ?_
  refine lf_scr (k := 1) hi hsc (by decide) rfl ?_
  refine lf_aload rfl ?_
  refine lf_iload rfl ?_
  refine lf_iconst lf_c2 ?_
  refine lf_iadd ?_
  refine lf_scr (k := 2) hi hsc (by decide) rfl ?_
  refine lf_callVWi (as := [.int (sc.2 (i + 1)), .int (sc.2 (i + 2))]) (rest := []) h rfl rfl lf_a389 rfl (Nat.le_trans (by decide) hd) rfl rfl (fun p3 h9 => s_Mod_buy h9) ?_
  intro p3 h
  refine lf_istore (L := fun y4 => [.ref mj_SC, .ref 0, .ref 389, .ref 404, .int (nI i), .int y2, .int y4]) h rfl rfl (fun _ => rfl) ?_
  intro y4 h
  refine lf_aload rfl ?_
  refine lf_callVRi (as := []) (rest := []) h rfl rfl lf_a389 rfl (Nat.le_trans (by decide) hd) rfl rfl (fun p5 h9 => s_Mod_thrown h9) ?_
  intro p5 h
  refine lf_iload rfl ?_
  refine lf_icmp_eq h (fun h => ?_) (fun h => ?_)
  · refine lf_blk B_Lw_lawmain_1189 ?_
    refine lf_iload rfl ?_
    refine lf_if_ne h (fun h => ?_) (fun h => ?_)
    · refine lf_blk B_Lw_lawmain_1206 ?_
      refine lf_goto ?_
      cases h
      exact mj_w_weak (ls := [.ref mj_SC, .ref 0, .ref 389, .ref 404, .int (nI i), mj_U, mj_U]) (lf_rl (lf_rl (lf_rl (lf_rl (lf_rl (lf_ri (lf_ri (lf_r0)))))))) (hk _ _ _ (by omega) (by omega))
    · refine lf_aload rfl ?_
      refine lf_iconst lf_c0 ?_
      refine lf_lald h lf_a404 ?_
      intro k6 h
      refine lf_iload rfl ?_
      refine lf_i2l ?_
      refine lf_lcmp ?_
      refine lf_if_eq h (fun h => ?_) (fun h => ?_)
      · refine lf_blk B_Lw_lawmain_1206 ?_
        refine lf_goto ?_
        cases h
        exact mj_w_weak (ls := [.ref mj_SC, .ref 0, .ref 389, .ref 404, .int (nI i), mj_U, mj_U]) (lf_rl (lf_rl (lf_rl (lf_rl (lf_rl (lf_ri (lf_ri (lf_r0)))))))) (hk _ _ _ (by omega) (by omega))
      · refine lf_iconst lf_c0 ?_
        cases h
  · refine lf_iconst lf_c0 ?_
    cases h
theorem s_case_16 {sc : Nat × (Nat → Int32)} {d i : Nat} {Q : mj_Q} {s p : lf_S} {cl : Bool} {rc rs : Nat} (hd : 300 ≤ d) (hi : i + 6 ≤ sc.1) (hsc : sc.1 ≤ 3072) (hrc : 1 ≤ rc) (hrs : 6 ≤ rs) (h : f_case_16 (sc.2 (i + 1)) (sc.2 (i + 2)) s = some p) (hk : ∀ cl' rc' rs', rc - 1 ≤ rc' → rs - 6 ≤ rs' → lf_wp sc d j_Lw_lawmain Q 3141 [.ref mj_SC, .ref 0, .ref 389, .ref 404, .int (nI i), mj_U, mj_U] [] (lf_hp p) cl' rc' rs') : lf_wp sc d j_Lw_lawmain Q 1209 [.ref mj_SC, .ref 0, .ref 389, .ref 404, .int (nI i), mj_U, mj_U] [] (lf_hp s) cl rc rs := by
  unfold f_case_16 at h
  refine lf_blk B_Lw_lawmain_1209 ?_
  refine lf_aload rfl ?_
  refine lf_aload rfl ?_
  refine lf_iload rfl ?_
  refine lf_iconst lf_c1 ?_
  refine lf_iadd ?_
  refine lf_scr (k := 1) hi hsc (by decide) rfl ?_
  refine lf_aload rfl ?_
  refine lf_iload rfl ?_
  refine lf_iconst lf_c2 ?_
  refine lf_iadd ?_
  refine lf_scr (k := 2) hi hsc (by decide) rfl ?_
  refine lf_aload rfl ?_
  refine lf_callSo (as := [.ref 0, .int (sc.2 (i + 1)), .int (sc.2 (i + 2)), .ref 404]) (rest := []) h rfl rfl (Nat.le_trans (by decide) hd) rfl rfl hrc hrs (fun p1 h9 => s_Lw_sell h9) ?_
  intro p1 p1c h
  refine lf_istore (L := fun y2 => [.ref mj_SC, .ref 0, .ref 389, .ref 404, .int (nI i), .int y2, mj_U]) h rfl rfl (fun _ => rfl) ?_
  intro y2 h
  refine lf_aload rfl ?_
  refine lf_aload rfl ?_
  refine lf_iload rfl ?_
  refine lf_iconst lf_c1 ?_
  refine lf_iadd ?_
  refine lf_scr (k := 1) hi hsc (by decide) rfl ?_
  refine lf_aload rfl ?_
  refine lf_iload rfl ?_
  refine lf_iconst lf_c2 ?_
  refine lf_iadd ?_
  refine lf_scr (k := 2) hi hsc (by decide) rfl ?_
  refine lf_callVWi (as := [.int (sc.2 (i + 1)), .int (sc.2 (i + 2))]) (rest := []) h rfl rfl lf_a389 rfl (Nat.le_trans (by decide) hd) rfl rfl (fun p3 h9 => s_Mod_sell h9) ?_
  intro p3 h
  refine lf_istore (L := fun y4 => [.ref mj_SC, .ref 0, .ref 389, .ref 404, .int (nI i), .int y2, .int y4]) h rfl rfl (fun _ => rfl) ?_
  intro y4 h
  refine lf_aload rfl ?_
  refine lf_callVRi (as := []) (rest := []) h rfl rfl lf_a389 rfl (Nat.le_trans (by decide) hd) rfl rfl (fun p5 h9 => s_Mod_thrown h9) ?_
  intro p5 h
  refine lf_iload rfl ?_
  refine lf_icmp_eq h (fun h => ?_) (fun h => ?_)
  · refine lf_blk B_Lw_lawmain_1257 ?_
    refine lf_iload rfl ?_
    refine lf_if_ne h (fun h => ?_) (fun h => ?_)
    · refine lf_blk B_Lw_lawmain_1274 ?_
      refine lf_goto ?_
      cases h
      exact mj_w_weak (ls := [.ref mj_SC, .ref 0, .ref 389, .ref 404, .int (nI i), mj_U, mj_U]) (lf_rl (lf_rl (lf_rl (lf_rl (lf_rl (lf_ri (lf_ri (lf_r0)))))))) (hk _ _ _ (by omega) (by omega))
    · refine lf_aload rfl ?_
      refine lf_iconst lf_c0 ?_
      refine lf_lald h lf_a404 ?_
      intro k6 h
      refine lf_iload rfl ?_
      refine lf_i2l ?_
      refine lf_lcmp ?_
      refine lf_if_eq h (fun h => ?_) (fun h => ?_)
      · refine lf_blk B_Lw_lawmain_1274 ?_
        refine lf_goto ?_
        cases h
        exact mj_w_weak (ls := [.ref mj_SC, .ref 0, .ref 389, .ref 404, .int (nI i), mj_U, mj_U]) (lf_rl (lf_rl (lf_rl (lf_rl (lf_rl (lf_ri (lf_ri (lf_r0)))))))) (hk _ _ _ (by omega) (by omega))
      · refine lf_iconst lf_c0 ?_
        cases h
  · refine lf_iconst lf_c0 ?_
    cases h
theorem s_case_17 {sc : Nat × (Nat → Int32)} {d i : Nat} {Q : mj_Q} {s p : lf_S} {cl : Bool} {rc rs : Nat} (hd : 300 ≤ d) (hi : i + 6 ≤ sc.1) (hsc : sc.1 ≤ 3072) (hrc : 1 ≤ rc) (hrs : 6 ≤ rs) (h : f_case_17 (sc.2 (i + 1)) (sc.2 (i + 2)) s = some p) (hk : ∀ cl' rc' rs', rc - 1 ≤ rc' → rs - 6 ≤ rs' → lf_wp sc d j_Lw_lawmain Q 3141 [.ref mj_SC, .ref 0, .ref 389, .ref 404, .int (nI i), mj_U, mj_U] [] (lf_hp p) cl' rc' rs') : lf_wp sc d j_Lw_lawmain Q 1277 [.ref mj_SC, .ref 0, .ref 389, .ref 404, .int (nI i), mj_U, mj_U] [] (lf_hp s) cl rc rs := by
  unfold f_case_17 at h
  refine lf_blk B_Lw_lawmain_1277 ?_
  refine lf_aload rfl ?_
  refine lf_aload rfl ?_
  refine lf_iload rfl ?_
  refine lf_iconst lf_c1 ?_
  refine lf_iadd ?_
  refine lf_scr (k := 1) hi hsc (by decide) rfl ?_
  refine lf_aload rfl ?_
  refine lf_iload rfl ?_
  refine lf_iconst lf_c2 ?_
  refine lf_iadd ?_
  refine lf_scr (k := 2) hi hsc (by decide) rfl ?_
  refine lf_aload rfl ?_
  refine lf_callSo (as := [.ref 0, .int (sc.2 (i + 1)), .int (sc.2 (i + 2)), .ref 404]) (rest := []) h rfl rfl (Nat.le_trans (by decide) hd) rfl rfl hrc hrs (fun p1 h9 => s_Lw_take h9) ?_
  intro p1 p1c h
  refine lf_istore (L := fun y2 => [.ref mj_SC, .ref 0, .ref 389, .ref 404, .int (nI i), .int y2, mj_U]) h rfl rfl (fun _ => rfl) ?_
  intro y2 h
  refine lf_aload rfl ?_
  refine lf_aload rfl ?_
  refine lf_iload rfl ?_
  refine lf_iconst lf_c1 ?_
  refine lf_iadd ?_
  refine lf_scr (k := 1) hi hsc (by decide) rfl ?_
  refine lf_aload rfl ?_
  refine lf_iload rfl ?_
  refine lf_iconst lf_c2 ?_
  refine lf_iadd ?_
  refine lf_scr (k := 2) hi hsc (by decide) rfl ?_
  refine lf_callVWi (as := [.int (sc.2 (i + 1)), .int (sc.2 (i + 2))]) (rest := []) h rfl rfl lf_a389 rfl (Nat.le_trans (by decide) hd) rfl rfl (fun p3 h9 => s_Mod_take h9) ?_
  intro p3 h
  refine lf_istore (L := fun y4 => [.ref mj_SC, .ref 0, .ref 389, .ref 404, .int (nI i), .int y2, .int y4]) h rfl rfl (fun _ => rfl) ?_
  intro y4 h
  refine lf_aload rfl ?_
  refine lf_callVRi (as := []) (rest := []) h rfl rfl lf_a389 rfl (Nat.le_trans (by decide) hd) rfl rfl (fun p5 h9 => s_Mod_thrown h9) ?_
  intro p5 h
  refine lf_iload rfl ?_
  refine lf_icmp_eq h (fun h => ?_) (fun h => ?_)
  · refine lf_blk B_Lw_lawmain_1325 ?_
    refine lf_iload rfl ?_
    refine lf_if_ne h (fun h => ?_) (fun h => ?_)
    · refine lf_blk B_Lw_lawmain_1342 ?_
      refine lf_goto ?_
      cases h
      exact mj_w_weak (ls := [.ref mj_SC, .ref 0, .ref 389, .ref 404, .int (nI i), mj_U, mj_U]) (lf_rl (lf_rl (lf_rl (lf_rl (lf_rl (lf_ri (lf_ri (lf_r0)))))))) (hk _ _ _ (by omega) (by omega))
    · refine lf_aload rfl ?_
      refine lf_iconst lf_c0 ?_
      refine lf_lald h lf_a404 ?_
      intro k6 h
      refine lf_iload rfl ?_
      refine lf_i2l ?_
      refine lf_lcmp ?_
      refine lf_if_eq h (fun h => ?_) (fun h => ?_)
      · refine lf_blk B_Lw_lawmain_1342 ?_
        refine lf_goto ?_
        cases h
        exact mj_w_weak (ls := [.ref mj_SC, .ref 0, .ref 389, .ref 404, .int (nI i), mj_U, mj_U]) (lf_rl (lf_rl (lf_rl (lf_rl (lf_rl (lf_ri (lf_ri (lf_r0)))))))) (hk _ _ _ (by omega) (by omega))
      · refine lf_iconst lf_c0 ?_
        cases h
  · refine lf_iconst lf_c0 ?_
    cases h
theorem s_case_18 {sc : Nat × (Nat → Int32)} {d i : Nat} {Q : mj_Q} {s p : lf_S} {cl : Bool} {rc rs : Nat} (hd : 300 ≤ d) (hi : i + 6 ≤ sc.1) (hsc : sc.1 ≤ 3072) (hrc : 1 ≤ rc) (hrs : 6 ≤ rs) (h : f_case_18 (sc.2 (i + 1)) s = some p) (hk : ∀ cl' rc' rs', rc - 1 ≤ rc' → rs - 6 ≤ rs' → lf_wp sc d j_Lw_lawmain Q 3141 [.ref mj_SC, .ref 0, .ref 389, .ref 404, .int (nI i), mj_U, mj_U] [] (lf_hp p) cl' rc' rs') : lf_wp sc d j_Lw_lawmain Q 1345 [.ref mj_SC, .ref 0, .ref 389, .ref 404, .int (nI i), mj_U, mj_U] [] (lf_hp s) cl rc rs := by
  unfold f_case_18 at h
  refine lf_blk B_Lw_lawmain_1345 ?_
  refine lf_aload rfl ?_
  refine lf_aload rfl ?_
  refine lf_iload rfl ?_
  refine lf_iconst lf_c1 ?_
  refine lf_iadd ?_
  refine lf_scr (k := 1) hi hsc (by decide) rfl ?_
  refine lf_callSo (as := [.ref 0, .int (sc.2 (i + 1))]) (rest := []) h rfl rfl (Nat.le_trans (by decide) hd) rfl rfl hrc hrs (fun p1 h9 => s_Lw_drop h9) ?_
  intro p1 p1c h
  refine lf_istore (L := fun y2 => [.ref mj_SC, .ref 0, .ref 389, .ref 404, .int (nI i), .int y2, mj_U]) h rfl rfl (fun _ => rfl) ?_
  intro y2 h
  refine lf_aload rfl ?_
  refine lf_aload rfl ?_
  refine lf_iload rfl ?_
  refine lf_iconst lf_c1 ?_
  refine lf_iadd ?_
  refine lf_scr (k := 1) hi hsc (by decide) rfl ?_
  refine lf_callVWu (as := [.int (sc.2 (i + 1))]) (rest := []) h rfl rfl lf_a389 rfl (Nat.le_trans (by decide) hd) rfl rfl (fun p3 h9 => s_Mod_drop h9) ?_
  intro p3 h
  refine lf_aload rfl ?_
  refine lf_callVRi (as := []) (rest := []) h rfl rfl lf_a389 rfl (Nat.le_trans (by decide) hd) rfl rfl (fun p4 h9 => s_Mod_thrown h9) ?_
  intro p4 h
  refine lf_iload rfl ?_
  refine lf_icmp_eq h (fun h => ?_) (fun h => ?_)
  · refine lf_blk B_Lw_lawmain_1378 ?_
    refine lf_goto ?_
    cases h
    exact mj_w_weak (ls := [.ref mj_SC, .ref 0, .ref 389, .ref 404, .int (nI i), mj_U, mj_U]) (lf_rl (lf_rl (lf_rl (lf_rl (lf_rl (lf_ri (lf_rl (lf_r0)))))))) (hk _ _ _ (by omega) (by omega))
  · refine lf_iconst lf_c0 ?_
    cases h
theorem s_case_19 {sc : Nat × (Nat → Int32)} {d i : Nat} {Q : mj_Q} {s p : lf_S} {cl : Bool} {rc rs : Nat} (hd : 300 ≤ d) (hi : i + 6 ≤ sc.1) (hsc : sc.1 ≤ 3072) (hrc : 1 ≤ rc) (hrs : 6 ≤ rs) (h : f_case_19 (sc.2 (i + 1)) (sc.2 (i + 2)) s = some p) (hk : ∀ cl' rc' rs', rc - 1 ≤ rc' → rs - 6 ≤ rs' → lf_wp sc d j_Lw_lawmain Q 3141 [.ref mj_SC, .ref 0, .ref 389, .ref 404, .int (nI i), mj_U, mj_U] [] (lf_hp p) cl' rc' rs') : lf_wp sc d j_Lw_lawmain Q 1381 [.ref mj_SC, .ref 0, .ref 389, .ref 404, .int (nI i), mj_U, mj_U] [] (lf_hp s) cl rc rs := by
  unfold f_case_19 at h
  refine lf_blk B_Lw_lawmain_1381 ?_
  refine lf_aload rfl ?_
  refine lf_aload rfl ?_
  refine lf_iload rfl ?_
  refine lf_iconst lf_c1 ?_
  refine lf_iadd ?_
  refine lf_scr (k := 1) hi hsc (by decide) rfl ?_
  refine lf_aload rfl ?_
  refine lf_iload rfl ?_
  refine lf_iconst lf_c2 ?_
  refine lf_iadd ?_
  refine lf_scr (k := 2) hi hsc (by decide) rfl ?_
  refine lf_aload rfl ?_
  refine lf_callSo (as := [.ref 0, .int (sc.2 (i + 1)), .int (sc.2 (i + 2)), .ref 404]) (rest := []) h rfl rfl (Nat.le_trans (by decide) hd) rfl rfl hrc hrs (fun p1 h9 => s_Lw_drain h9) ?_
  intro p1 p1c h
  refine lf_istore (L := fun y2 => [.ref mj_SC, .ref 0, .ref 389, .ref 404, .int (nI i), .int y2, mj_U]) h rfl rfl (fun _ => rfl) ?_
  intro y2 h
  refine lf_aload rfl ?_
  refine lf_aload rfl ?_
  refine lf_iload rfl ?_
  refine lf_iconst lf_c1 ?_
  refine lf_iadd ?_
  refine lf_scr (k := 1) hi hsc (by decide) rfl ?_
  refine lf_aload rfl ?_
  refine lf_iload rfl ?_
  refine lf_iconst lf_c2 ?_
  refine lf_iadd ?_
  refine lf_scr (k := 2) hi hsc (by decide) rfl ?_
  refine lf_callVWi (as := [.int (sc.2 (i + 1)), .int (sc.2 (i + 2))]) (rest := []) h rfl rfl lf_a389 rfl (Nat.le_trans (by decide) hd) rfl rfl (fun p3 h9 => s_Mod_drain h9) ?_
  intro p3 h
  refine lf_istore (L := fun y4 => [.ref mj_SC, .ref 0, .ref 389, .ref 404, .int (nI i), .int y2, .int y4]) h rfl rfl (fun _ => rfl) ?_
  intro y4 h
  refine lf_aload rfl ?_
  refine lf_callVRi (as := []) (rest := []) h rfl rfl lf_a389 rfl (Nat.le_trans (by decide) hd) rfl rfl (fun p5 h9 => s_Mod_thrown h9) ?_
  intro p5 h
  refine lf_iload rfl ?_
  refine lf_icmp_eq h (fun h => ?_) (fun h => ?_)
  · refine lf_blk B_Lw_lawmain_1429 ?_
    refine lf_iload rfl ?_
    refine lf_if_ne h (fun h => ?_) (fun h => ?_)
    · refine lf_blk B_Lw_lawmain_1446 ?_
      refine lf_goto ?_
      cases h
      exact mj_w_weak (ls := [.ref mj_SC, .ref 0, .ref 389, .ref 404, .int (nI i), mj_U, mj_U]) (lf_rl (lf_rl (lf_rl (lf_rl (lf_rl (lf_ri (lf_ri (lf_r0)))))))) (hk _ _ _ (by omega) (by omega))
    · refine lf_aload rfl ?_
      refine lf_iconst lf_c0 ?_
      refine lf_lald h lf_a404 ?_
      intro k6 h
      refine lf_iload rfl ?_
      refine lf_i2l ?_
      refine lf_lcmp ?_
      refine lf_if_eq h (fun h => ?_) (fun h => ?_)
      · refine lf_blk B_Lw_lawmain_1446 ?_
        refine lf_goto ?_
        cases h
        exact mj_w_weak (ls := [.ref mj_SC, .ref 0, .ref 389, .ref 404, .int (nI i), mj_U, mj_U]) (lf_rl (lf_rl (lf_rl (lf_rl (lf_rl (lf_ri (lf_ri (lf_r0)))))))) (hk _ _ _ (by omega) (by omega))
      · refine lf_iconst lf_c0 ?_
        cases h
  · refine lf_iconst lf_c0 ?_
    cases h
theorem s_case_20 {sc : Nat × (Nat → Int32)} {d i : Nat} {Q : mj_Q} {s p : lf_S} {cl : Bool} {rc rs : Nat} (hd : 300 ≤ d) (hi : i + 6 ≤ sc.1) (hsc : sc.1 ≤ 3072) (hrc : 1 ≤ rc) (hrs : 6 ≤ rs) (h : f_case_20 (sc.2 (i + 1)) (sc.2 (i + 2)) s = some p) (hk : ∀ cl' rc' rs', rc - 1 ≤ rc' → rs - 6 ≤ rs' → lf_wp sc d j_Lw_lawmain Q 3141 [.ref mj_SC, .ref 0, .ref 389, .ref 404, .int (nI i), mj_U, mj_U] [] (lf_hp p) cl' rc' rs') : lf_wp sc d j_Lw_lawmain Q 1449 [.ref mj_SC, .ref 0, .ref 389, .ref 404, .int (nI i), mj_U, mj_U] [] (lf_hp s) cl rc rs := by
  unfold f_case_20 at h
  refine lf_blk B_Lw_lawmain_1449 ?_
  refine lf_aload rfl ?_
  refine lf_aload rfl ?_
  refine lf_iload rfl ?_
  refine lf_iconst lf_c1 ?_
  refine lf_iadd ?_
  refine lf_scr (k := 1) hi hsc (by decide) rfl ?_
  refine lf_aload rfl ?_
  refine lf_iload rfl ?_
  refine lf_iconst lf_c2 ?_
  refine lf_iadd ?_
  refine lf_scr (k := 2) hi hsc (by decide) rfl ?_
  refine lf_aload rfl ?_
  refine lf_callSo (as := [.ref 0, .int (sc.2 (i + 1)), .int (sc.2 (i + 2)), .ref 404]) (rest := []) h rfl rfl (Nat.le_trans (by decide) hd) rfl rfl hrc hrs (fun p1 h9 => s_Lw_hire h9) ?_
  intro p1 p1c h
  refine lf_istore (L := fun y2 => [.ref mj_SC, .ref 0, .ref 389, .ref 404, .int (nI i), .int y2, mj_U]) h rfl rfl (fun _ => rfl) ?_
  intro y2 h
  refine lf_aload rfl ?_
  refine lf_aload rfl ?_
  refine lf_iload rfl ?_
  refine lf_iconst lf_c1 ?_
  refine lf_iadd ?_
  refine lf_scr (k := 1) hi hsc (by decide) rfl ?_
  refine lf_aload rfl ?_
  refine lf_iload rfl ?_
  refine lf_iconst lf_c2 ?_
  refine lf_iadd ?_
  refine lf_scr (k := 2) hi hsc (by decide) rfl ?_
  refine lf_callVWi (as := [.int (sc.2 (i + 1)), .int (sc.2 (i + 2))]) (rest := []) h rfl rfl lf_a389 rfl (Nat.le_trans (by decide) hd) rfl rfl (fun p3 h9 => s_Mod_hire h9) ?_
  intro p3 h
  refine lf_istore (L := fun y4 => [.ref mj_SC, .ref 0, .ref 389, .ref 404, .int (nI i), .int y2, .int y4]) h rfl rfl (fun _ => rfl) ?_
  intro y4 h
  refine lf_aload rfl ?_
  refine lf_callVRi (as := []) (rest := []) h rfl rfl lf_a389 rfl (Nat.le_trans (by decide) hd) rfl rfl (fun p5 h9 => s_Mod_thrown h9) ?_
  intro p5 h
  refine lf_iload rfl ?_
  refine lf_icmp_eq h (fun h => ?_) (fun h => ?_)
  · refine lf_blk B_Lw_lawmain_1497 ?_
    refine lf_iload rfl ?_
    refine lf_if_ne h (fun h => ?_) (fun h => ?_)
    · refine lf_blk B_Lw_lawmain_1514 ?_
      refine lf_goto ?_
      cases h
      exact mj_w_weak (ls := [.ref mj_SC, .ref 0, .ref 389, .ref 404, .int (nI i), mj_U, mj_U]) (lf_rl (lf_rl (lf_rl (lf_rl (lf_rl (lf_ri (lf_ri (lf_r0)))))))) (hk _ _ _ (by omega) (by omega))
    · refine lf_aload rfl ?_
      refine lf_iconst lf_c0 ?_
      refine lf_lald h lf_a404 ?_
      intro k6 h
      refine lf_iload rfl ?_
      refine lf_i2l ?_
      refine lf_lcmp ?_
      refine lf_if_eq h (fun h => ?_) (fun h => ?_)
      · refine lf_blk B_Lw_lawmain_1514 ?_
        refine lf_goto ?_
        cases h
        exact mj_w_weak (ls := [.ref mj_SC, .ref 0, .ref 389, .ref 404, .int (nI i), mj_U, mj_U]) (lf_rl (lf_rl (lf_rl (lf_rl (lf_rl (lf_ri (lf_ri (lf_r0)))))))) (hk _ _ _ (by omega) (by omega))
      · refine lf_iconst lf_c0 ?_
        cases h
  · refine lf_iconst lf_c0 ?_
    cases h
theorem s_case_21 {sc : Nat × (Nat → Int32)} {d i : Nat} {Q : mj_Q} {s p : lf_S} {cl : Bool} {rc rs : Nat} (hd : 300 ≤ d) (hi : i + 6 ≤ sc.1) (hsc : sc.1 ≤ 3072) (hrc : 1 ≤ rc) (hrs : 6 ≤ rs) (h : f_case_21 (sc.2 (i + 1)) s = some p) (hk : ∀ cl' rc' rs', rc - 1 ≤ rc' → rs - 6 ≤ rs' → lf_wp sc d j_Lw_lawmain Q 3141 [.ref mj_SC, .ref 0, .ref 389, .ref 404, .int (nI i), mj_U, mj_U] [] (lf_hp p) cl' rc' rs') : lf_wp sc d j_Lw_lawmain Q 1517 [.ref mj_SC, .ref 0, .ref 389, .ref 404, .int (nI i), mj_U, mj_U] [] (lf_hp s) cl rc rs := by
  unfold f_case_21 at h
  refine lf_blk B_Lw_lawmain_1517 ?_
  refine lf_aload rfl ?_
  refine lf_aload rfl ?_
  refine lf_iload rfl ?_
  refine lf_iconst lf_c1 ?_
  refine lf_iadd ?_
  refine lf_scr (k := 1) hi hsc (by decide) rfl ?_
  refine lf_aload rfl ?_
  refine lf_callSo (as := [.ref 0, .int (sc.2 (i + 1)), .ref 404]) (rest := []) h rfl rfl (Nat.le_trans (by decide) hd) rfl rfl hrc hrs (fun p1 h9 => s_Lw_teach h9) ?_
  intro p1 p1c h
  refine lf_istore (L := fun y2 => [.ref mj_SC, .ref 0, .ref 389, .ref 404, .int (nI i), .int y2, mj_U]) h rfl rfl (fun _ => rfl) ?_
  intro y2 h
  refine lf_aload rfl ?_
  refine lf_aload rfl ?_
  refine lf_iload rfl ?_
  refine lf_iconst lf_c1 ?_
  refine lf_iadd ?_
  refine lf_scr (k := 1) hi hsc (by decide) rfl ?_
  refine lf_callVWi (as := [.int (sc.2 (i + 1))]) (rest := []) h rfl rfl lf_a389 rfl (Nat.le_trans (by decide) hd) rfl rfl (fun p3 h9 => s_Mod_teach h9) ?_
  intro p3 h
  refine lf_istore (L := fun y4 => [.ref mj_SC, .ref 0, .ref 389, .ref 404, .int (nI i), .int y2, .int y4]) h rfl rfl (fun _ => rfl) ?_
  intro y4 h
  refine lf_aload rfl ?_
  refine lf_callVRi (as := []) (rest := []) h rfl rfl lf_a389 rfl (Nat.le_trans (by decide) hd) rfl rfl (fun p5 h9 => s_Mod_thrown h9) ?_
  intro p5 h
  refine lf_iload rfl ?_
  refine lf_icmp_eq h (fun h => ?_) (fun h => ?_)
  · refine lf_blk B_Lw_lawmain_1553 ?_
    refine lf_iload rfl ?_
    refine lf_if_ne h (fun h => ?_) (fun h => ?_)
    · refine lf_blk B_Lw_lawmain_1570 ?_
      refine lf_goto ?_
      cases h
      exact mj_w_weak (ls := [.ref mj_SC, .ref 0, .ref 389, .ref 404, .int (nI i), mj_U, mj_U]) (lf_rl (lf_rl (lf_rl (lf_rl (lf_rl (lf_ri (lf_ri (lf_r0)))))))) (hk _ _ _ (by omega) (by omega))
    · refine lf_aload rfl ?_
      refine lf_iconst lf_c0 ?_
      refine lf_lald h lf_a404 ?_
      intro k6 h
      refine lf_iload rfl ?_
      refine lf_i2l ?_
      refine lf_lcmp ?_
      refine lf_if_eq h (fun h => ?_) (fun h => ?_)
      · refine lf_blk B_Lw_lawmain_1570 ?_
        refine lf_goto ?_
        cases h
        exact mj_w_weak (ls := [.ref mj_SC, .ref 0, .ref 389, .ref 404, .int (nI i), mj_U, mj_U]) (lf_rl (lf_rl (lf_rl (lf_rl (lf_rl (lf_ri (lf_ri (lf_r0)))))))) (hk _ _ _ (by omega) (by omega))
      · refine lf_iconst lf_c0 ?_
        cases h
  · refine lf_iconst lf_c0 ?_
    cases h
theorem s_case_22 {sc : Nat × (Nat → Int32)} {d i : Nat} {Q : mj_Q} {s p : lf_S} {cl : Bool} {rc rs : Nat} (hd : 300 ≤ d) (hi : i + 6 ≤ sc.1) (hsc : sc.1 ≤ 3072) (hrc : 1 ≤ rc) (hrs : 6 ≤ rs) (h : f_case_22 (sc.2 (i + 1)) s = some p) (hk : ∀ cl' rc' rs', rc - 1 ≤ rc' → rs - 6 ≤ rs' → lf_wp sc d j_Lw_lawmain Q 3141 [.ref mj_SC, .ref 0, .ref 389, .ref 404, .int (nI i), mj_U, mj_U] [] (lf_hp p) cl' rc' rs') : lf_wp sc d j_Lw_lawmain Q 1573 [.ref mj_SC, .ref 0, .ref 389, .ref 404, .int (nI i), mj_U, mj_U] [] (lf_hp s) cl rc rs := by
  unfold f_case_22 at h
  refine lf_blk B_Lw_lawmain_1573 ?_
  refine lf_aload rfl ?_
  refine lf_aload rfl ?_
  refine lf_iload rfl ?_
  refine lf_iconst lf_c1 ?_
  refine lf_iadd ?_
  refine lf_scr (k := 1) hi hsc (by decide) rfl ?_
  refine lf_aload rfl ?_
  refine lf_callSo (as := [.ref 0, .int (sc.2 (i + 1)), .ref 404]) (rest := []) h rfl rfl (Nat.le_trans (by decide) hd) rfl rfl hrc hrs (fun p1 h9 => s_Lw_make h9) ?_
  intro p1 p1c h
  refine lf_istore (L := fun y2 => [.ref mj_SC, .ref 0, .ref 389, .ref 404, .int (nI i), .int y2, mj_U]) h rfl rfl (fun _ => rfl) ?_
  intro y2 h
  refine lf_aload rfl ?_
  refine lf_aload rfl ?_
  refine lf_iload rfl ?_
  refine lf_iconst lf_c1 ?_
  refine lf_iadd ?_
  refine lf_scr (k := 1) hi hsc (by decide) rfl ?_
  refine lf_callVWi (as := [.int (sc.2 (i + 1))]) (rest := []) h rfl rfl lf_a389 rfl (Nat.le_trans (by decide) hd) rfl rfl (fun p3 h9 => s_Mod_make h9) ?_
  intro p3 h
  refine lf_istore (L := fun y4 => [.ref mj_SC, .ref 0, .ref 389, .ref 404, .int (nI i), .int y2, .int y4]) h rfl rfl (fun _ => rfl) ?_
  intro y4 h
  refine lf_aload rfl ?_
  refine lf_callVRi (as := []) (rest := []) h rfl rfl lf_a389 rfl (Nat.le_trans (by decide) hd) rfl rfl (fun p5 h9 => s_Mod_thrown h9) ?_
  intro p5 h
  refine lf_iload rfl ?_
  refine lf_icmp_eq h (fun h => ?_) (fun h => ?_)
  · refine lf_blk B_Lw_lawmain_1609 ?_
    refine lf_iload rfl ?_
    refine lf_if_ne h (fun h => ?_) (fun h => ?_)
    · refine lf_blk B_Lw_lawmain_1626 ?_
      refine lf_goto ?_
      cases h
      exact mj_w_weak (ls := [.ref mj_SC, .ref 0, .ref 389, .ref 404, .int (nI i), mj_U, mj_U]) (lf_rl (lf_rl (lf_rl (lf_rl (lf_rl (lf_ri (lf_ri (lf_r0)))))))) (hk _ _ _ (by omega) (by omega))
    · refine lf_aload rfl ?_
      refine lf_iconst lf_c0 ?_
      refine lf_lald h lf_a404 ?_
      intro k6 h
      refine lf_iload rfl ?_
      refine lf_i2l ?_
      refine lf_lcmp ?_
      refine lf_if_eq h (fun h => ?_) (fun h => ?_)
      · refine lf_blk B_Lw_lawmain_1626 ?_
        refine lf_goto ?_
        cases h
        exact mj_w_weak (ls := [.ref mj_SC, .ref 0, .ref 389, .ref 404, .int (nI i), mj_U, mj_U]) (lf_rl (lf_rl (lf_rl (lf_rl (lf_rl (lf_ri (lf_ri (lf_r0)))))))) (hk _ _ _ (by omega) (by omega))
      · refine lf_iconst lf_c0 ?_
        cases h
  · refine lf_iconst lf_c0 ?_
    cases h
theorem s_case_23 {sc : Nat × (Nat → Int32)} {d i : Nat} {Q : mj_Q} {s p : lf_S} {cl : Bool} {rc rs : Nat} (hd : 300 ≤ d) (hi : i + 6 ≤ sc.1) (hsc : sc.1 ≤ 3072) (hrc : 1 ≤ rc) (hrs : 6 ≤ rs) (h : f_case_23 (sc.2 (i + 1)) (sc.2 (i + 2)) s = some p) (hk : ∀ cl' rc' rs', rc - 1 ≤ rc' → rs - 6 ≤ rs' → lf_wp sc d j_Lw_lawmain Q 3141 [.ref mj_SC, .ref 0, .ref 389, .ref 404, .int (nI i), mj_U, mj_U] [] (lf_hp p) cl' rc' rs') : lf_wp sc d j_Lw_lawmain Q 1629 [.ref mj_SC, .ref 0, .ref 389, .ref 404, .int (nI i), mj_U, mj_U] [] (lf_hp s) cl rc rs := by
  unfold f_case_23 at h
  refine lf_blk B_Lw_lawmain_1629 ?_
  refine lf_aload rfl ?_
  refine lf_aload rfl ?_
  refine lf_iload rfl ?_
  refine lf_iconst lf_c1 ?_
  refine lf_iadd ?_
  refine lf_scr (k := 1) hi hsc (by decide) rfl ?_
  refine lf_aload rfl ?_
  refine lf_iload rfl ?_
  refine lf_iconst lf_c2 ?_
  refine lf_iadd ?_
  refine lf_scr (k := 2) hi hsc (by decide) rfl ?_
  refine lf_aload rfl ?_
  refine lf_callSo (as := [.ref 0, .int (sc.2 (i + 1)), .int (sc.2 (i + 2)), .ref 404]) (rest := []) h rfl rfl (Nat.le_trans (by decide) hd) rfl rfl hrc hrs (fun p1 h9 => s_Lw_gain h9) ?_
  intro p1 p1c h
  refine lf_istore (L := fun y2 => [.ref mj_SC, .ref 0, .ref 389, .ref 404, .int (nI i), .int y2, mj_U]) h rfl rfl (fun _ => rfl) ?_
  intro y2 h
  refine lf_aload rfl ?_
  refine lf_aload rfl ?_
  refine lf_iload rfl ?_
  refine lf_iconst lf_c1 ?_
  refine lf_iadd ?_
  refine lf_scr (k := 1) hi hsc (by decide) rfl ?_
  refine lf_aload rfl ?_
  refine lf_iload rfl ?_
  refine lf_iconst lf_c2 ?_
  refine lf_iadd ?_
  refine lf_scr (k := 2) hi hsc (by decide) rfl ?_
  refine lf_callVWi (as := [.int (sc.2 (i + 1)), .int (sc.2 (i + 2))]) (rest := []) h rfl rfl lf_a389 rfl (Nat.le_trans (by decide) hd) rfl rfl (fun p3 h9 => s_Mod_gain h9) ?_
  intro p3 h
  refine lf_istore (L := fun y4 => [.ref mj_SC, .ref 0, .ref 389, .ref 404, .int (nI i), .int y2, .int y4]) h rfl rfl (fun _ => rfl) ?_
  intro y4 h
  refine lf_aload rfl ?_
  refine lf_callVRi (as := []) (rest := []) h rfl rfl lf_a389 rfl (Nat.le_trans (by decide) hd) rfl rfl (fun p5 h9 => s_Mod_thrown h9) ?_
  intro p5 h
  refine lf_iload rfl ?_
  refine lf_icmp_eq h (fun h => ?_) (fun h => ?_)
  · refine lf_blk B_Lw_lawmain_1677 ?_
    refine lf_iload rfl ?_
    refine lf_if_ne h (fun h => ?_) (fun h => ?_)
    · refine lf_blk B_Lw_lawmain_1694 ?_
      refine lf_goto ?_
      cases h
      exact mj_w_weak (ls := [.ref mj_SC, .ref 0, .ref 389, .ref 404, .int (nI i), mj_U, mj_U]) (lf_rl (lf_rl (lf_rl (lf_rl (lf_rl (lf_ri (lf_ri (lf_r0)))))))) (hk _ _ _ (by omega) (by omega))
    · refine lf_aload rfl ?_
      refine lf_iconst lf_c0 ?_
      refine lf_lald h lf_a404 ?_
      intro k6 h
      refine lf_iload rfl ?_
      refine lf_i2l ?_
      refine lf_lcmp ?_
      refine lf_if_eq h (fun h => ?_) (fun h => ?_)
      · refine lf_blk B_Lw_lawmain_1694 ?_
        refine lf_goto ?_
        cases h
        exact mj_w_weak (ls := [.ref mj_SC, .ref 0, .ref 389, .ref 404, .int (nI i), mj_U, mj_U]) (lf_rl (lf_rl (lf_rl (lf_rl (lf_rl (lf_ri (lf_ri (lf_r0)))))))) (hk _ _ _ (by omega) (by omega))
      · refine lf_iconst lf_c0 ?_
        cases h
  · refine lf_iconst lf_c0 ?_
    cases h
theorem s_case_24 {sc : Nat × (Nat → Int32)} {d i : Nat} {Q : mj_Q} {s p : lf_S} {cl : Bool} {rc rs : Nat} (hd : 300 ≤ d) (hi : i + 6 ≤ sc.1) (hsc : sc.1 ≤ 3072) (hrc : 1 ≤ rc) (hrs : 6 ≤ rs) (h : f_case_24 (sc.2 (i + 1)) (sc.2 (i + 2)) s = some p) (hk : ∀ cl' rc' rs', rc - 1 ≤ rc' → rs - 6 ≤ rs' → lf_wp sc d j_Lw_lawmain Q 3141 [.ref mj_SC, .ref 0, .ref 389, .ref 404, .int (nI i), mj_U, mj_U] [] (lf_hp p) cl' rc' rs') : lf_wp sc d j_Lw_lawmain Q 1697 [.ref mj_SC, .ref 0, .ref 389, .ref 404, .int (nI i), mj_U, mj_U] [] (lf_hp s) cl rc rs := by
  unfold f_case_24 at h
  refine lf_blk B_Lw_lawmain_1697 ?_
  refine lf_aload rfl ?_
  refine lf_aload rfl ?_
  refine lf_iload rfl ?_
  refine lf_iconst lf_c1 ?_
  refine lf_iadd ?_
  refine lf_scr (k := 1) hi hsc (by decide) rfl ?_
  refine lf_aload rfl ?_
  refine lf_iload rfl ?_
  refine lf_iconst lf_c2 ?_
  refine lf_iadd ?_
  refine lf_scr (k := 2) hi hsc (by decide) rfl ?_
  refine lf_aload rfl ?_
  refine lf_callSo (as := [.ref 0, .int (sc.2 (i + 1)), .int (sc.2 (i + 2)), .ref 404]) (rest := []) h rfl rfl (Nat.le_trans (by decide) hd) rfl rfl hrc hrs (fun p1 h9 => s_Lw_cuts h9) ?_
  intro p1 p1c h
  refine lf_istore (L := fun y2 => [.ref mj_SC, .ref 0, .ref 389, .ref 404, .int (nI i), .int y2, mj_U]) h rfl rfl (fun _ => rfl) ?_
  intro y2 h
  refine lf_aload rfl ?_
  refine lf_aload rfl ?_
  refine lf_iload rfl ?_
  refine lf_iconst lf_c1 ?_
  refine lf_iadd ?_
  refine lf_scr (k := 1) hi hsc (by decide) rfl ?_
  refine lf_aload rfl ?_
  refine lf_iload rfl ?_
  refine lf_iconst lf_c2 ?_
  refine lf_iadd ?_
  refine lf_scr (k := 2) hi hsc (by decide) rfl ?_
  refine lf_callVWi (as := [.int (sc.2 (i + 1)), .int (sc.2 (i + 2))]) (rest := []) h rfl rfl lf_a389 rfl (Nat.le_trans (by decide) hd) rfl rfl (fun p3 h9 => s_Mod_cuts h9) ?_
  intro p3 h
  refine lf_istore (L := fun y4 => [.ref mj_SC, .ref 0, .ref 389, .ref 404, .int (nI i), .int y2, .int y4]) h rfl rfl (fun _ => rfl) ?_
  intro y4 h
  refine lf_aload rfl ?_
  refine lf_callVRi (as := []) (rest := []) h rfl rfl lf_a389 rfl (Nat.le_trans (by decide) hd) rfl rfl (fun p5 h9 => s_Mod_thrown h9) ?_
  intro p5 h
  refine lf_iload rfl ?_
  refine lf_icmp_eq h (fun h => ?_) (fun h => ?_)
  · refine lf_blk B_Lw_lawmain_1745 ?_
    refine lf_iload rfl ?_
    refine lf_if_ne h (fun h => ?_) (fun h => ?_)
    · refine lf_blk B_Lw_lawmain_1762 ?_
      refine lf_goto ?_
      cases h
      exact mj_w_weak (ls := [.ref mj_SC, .ref 0, .ref 389, .ref 404, .int (nI i), mj_U, mj_U]) (lf_rl (lf_rl (lf_rl (lf_rl (lf_rl (lf_ri (lf_ri (lf_r0)))))))) (hk _ _ _ (by omega) (by omega))
    · refine lf_aload rfl ?_
      refine lf_iconst lf_c0 ?_
      refine lf_lald h lf_a404 ?_
      intro k6 h
      refine lf_iload rfl ?_
      refine lf_i2l ?_
      refine lf_lcmp ?_
      refine lf_if_eq h (fun h => ?_) (fun h => ?_)
      · refine lf_blk B_Lw_lawmain_1762 ?_
        refine lf_goto ?_
        cases h
        exact mj_w_weak (ls := [.ref mj_SC, .ref 0, .ref 389, .ref 404, .int (nI i), mj_U, mj_U]) (lf_rl (lf_rl (lf_rl (lf_rl (lf_rl (lf_ri (lf_ri (lf_r0)))))))) (hk _ _ _ (by omega) (by omega))
      · refine lf_iconst lf_c0 ?_
        cases h
  · refine lf_iconst lf_c0 ?_
    cases h
theorem s_case_25 {sc : Nat × (Nat → Int32)} {d i : Nat} {Q : mj_Q} {s p : lf_S} {cl : Bool} {rc rs : Nat} (hd : 300 ≤ d) (hi : i + 6 ≤ sc.1) (hsc : sc.1 ≤ 3072) (hrc : 1 ≤ rc) (hrs : 6 ≤ rs) (h : f_case_25 s = some p) (hk : ∀ cl' rc' rs', rc - 1 ≤ rc' → rs - 6 ≤ rs' → lf_wp sc d j_Lw_lawmain Q 3141 [.ref mj_SC, .ref 0, .ref 389, .ref 404, .int (nI i), mj_U, mj_U] [] (lf_hp p) cl' rc' rs') : lf_wp sc d j_Lw_lawmain Q 1765 [.ref mj_SC, .ref 0, .ref 389, .ref 404, .int (nI i), mj_U, mj_U] [] (lf_hp s) cl rc rs := by
  unfold f_case_25 at h
  refine lf_blk B_Lw_lawmain_1765 ?_
  refine lf_aload rfl ?_
  refine lf_callVRi (as := []) (rest := []) h rfl rfl lf_a0 rfl (Nat.le_trans (by decide) hd) rfl rfl (fun p1 h9 => s_Main_worth h9) ?_
  intro p1 h
  refine lf_aload rfl ?_
  refine lf_callVWi (as := []) (rest := [.int p1]) h rfl rfl lf_a389 rfl (Nat.le_trans (by decide) hd) rfl rfl (fun p2 h9 => s_Mod_worth h9) ?_
  intro p2 h
  refine lf_icmp_eq h (fun h => ?_) (fun h => ?_)
  · cases h
    exact mj_w_weak (ls := [.ref mj_SC, .ref 0, .ref 389, .ref 404, .int (nI i), mj_U, mj_U]) (lf_rl (lf_rl (lf_rl (lf_rl (lf_rl (lf_rl (lf_rl (lf_r0)))))))) (hk _ _ _ (by omega) (by omega))
  · refine lf_iconst lf_c0 ?_
    cases h
theorem s_case_26 {sc : Nat × (Nat → Int32)} {d i : Nat} {Q : mj_Q} {s p : lf_S} {cl : Bool} {rc rs : Nat} (hd : 300 ≤ d) (hi : i + 6 ≤ sc.1) (hsc : sc.1 ≤ 3072) (hrc : 1 ≤ rc) (hrs : 6 ≤ rs) (h : f_case_26 s = some p) (hk : ∀ cl' rc' rs', rc - 1 ≤ rc' → rs - 6 ≤ rs' → lf_wp sc d j_Lw_lawmain Q 3141 [.ref mj_SC, .ref 0, .ref 389, .ref 404, .int (nI i), mj_U, mj_U] [] (lf_hp p) cl' rc' rs') : lf_wp sc d j_Lw_lawmain Q 1778 [.ref mj_SC, .ref 0, .ref 389, .ref 404, .int (nI i), mj_U, mj_U] [] (lf_hp s) cl rc rs := by
  unfold f_case_26 at h
  refine lf_blk B_Lw_lawmain_1778 ?_
  refine lf_aload rfl ?_
  refine lf_callVRi (as := []) (rest := []) h rfl rfl lf_a0 rfl (Nat.le_trans (by decide) hd) rfl rfl (fun p1 h9 => s_Main_fills h9) ?_
  intro p1 h
  refine lf_aload rfl ?_
  refine lf_callVWi (as := []) (rest := [.int p1]) h rfl rfl lf_a389 rfl (Nat.le_trans (by decide) hd) rfl rfl (fun p2 h9 => s_Mod_fills h9) ?_
  intro p2 h
  refine lf_icmp_eq h (fun h => ?_) (fun h => ?_)
  · cases h
    exact mj_w_weak (ls := [.ref mj_SC, .ref 0, .ref 389, .ref 404, .int (nI i), mj_U, mj_U]) (lf_rl (lf_rl (lf_rl (lf_rl (lf_rl (lf_rl (lf_rl (lf_r0)))))))) (hk _ _ _ (by omega) (by omega))
  · refine lf_iconst lf_c0 ?_
    cases h
theorem s_case_27 {sc : Nat × (Nat → Int32)} {d i : Nat} {Q : mj_Q} {s p : lf_S} {cl : Bool} {rc rs : Nat} (hd : 300 ≤ d) (hi : i + 6 ≤ sc.1) (hsc : sc.1 ≤ 3072) (hrc : 1 ≤ rc) (hrs : 6 ≤ rs) (h : f_case_27 (sc.2 (i + 1)) s = some p) (hk : ∀ cl' rc' rs', rc - 1 ≤ rc' → rs - 6 ≤ rs' → lf_wp sc d j_Lw_lawmain Q 3141 [.ref mj_SC, .ref 0, .ref 389, .ref 404, .int (nI i), mj_U, mj_U] [] (lf_hp p) cl' rc' rs') : lf_wp sc d j_Lw_lawmain Q 1791 [.ref mj_SC, .ref 0, .ref 389, .ref 404, .int (nI i), mj_U, mj_U] [] (lf_hp s) cl rc rs := by
  unfold f_case_27 at h
  refine lf_blk B_Lw_lawmain_1791 ?_
  refine lf_aload rfl ?_
  refine lf_aload rfl ?_
  refine lf_iload rfl ?_
  refine lf_iconst lf_c1 ?_
  refine lf_iadd ?_
  refine lf_scr (k := 1) hi hsc (by decide) rfl ?_
  refine lf_aload rfl ?_
  refine lf_callSo (as := [.ref 0, .int (sc.2 (i + 1)), .ref 404]) (rest := []) h rfl rfl (Nat.le_trans (by decide) hd) rfl rfl hrc hrs (fun p1 h9 => s_Lw_pieces h9) ?_
  intro p1 p1c h
  refine lf_istore (L := fun y2 => [.ref mj_SC, .ref 0, .ref 389, .ref 404, .int (nI i), .int y2, mj_U]) h rfl rfl (fun _ => rfl) ?_
  intro y2 h
  refine lf_aload rfl ?_
  refine lf_aload rfl ?_
  refine lf_iload rfl ?_
  refine lf_iconst lf_c1 ?_
  refine lf_iadd ?_
  refine lf_scr (k := 1) hi hsc (by decide) rfl ?_
  refine lf_callVWi (as := [.int (sc.2 (i + 1))]) (rest := []) h rfl rfl lf_a389 rfl (Nat.le_trans (by decide) hd) rfl rfl (fun p3 h9 => s_Mod_pieces h9) ?_
  intro p3 h
  refine lf_istore (L := fun y4 => [.ref mj_SC, .ref 0, .ref 389, .ref 404, .int (nI i), .int y2, .int y4]) h rfl rfl (fun _ => rfl) ?_
  intro y4 h
  refine lf_aload rfl ?_
  refine lf_callVRi (as := []) (rest := []) h rfl rfl lf_a389 rfl (Nat.le_trans (by decide) hd) rfl rfl (fun p5 h9 => s_Mod_thrown h9) ?_
  intro p5 h
  refine lf_iload rfl ?_
  refine lf_icmp_eq h (fun h => ?_) (fun h => ?_)
  · refine lf_blk B_Lw_lawmain_1827 ?_
    refine lf_iload rfl ?_
    refine lf_if_ne h (fun h => ?_) (fun h => ?_)
    · refine lf_blk B_Lw_lawmain_1844 ?_
      refine lf_goto ?_
      cases h
      exact mj_w_weak (ls := [.ref mj_SC, .ref 0, .ref 389, .ref 404, .int (nI i), mj_U, mj_U]) (lf_rl (lf_rl (lf_rl (lf_rl (lf_rl (lf_ri (lf_ri (lf_r0)))))))) (hk _ _ _ (by omega) (by omega))
    · refine lf_aload rfl ?_
      refine lf_iconst lf_c0 ?_
      refine lf_lald h lf_a404 ?_
      intro k6 h
      refine lf_iload rfl ?_
      refine lf_i2l ?_
      refine lf_lcmp ?_
      refine lf_if_eq h (fun h => ?_) (fun h => ?_)
      · refine lf_blk B_Lw_lawmain_1844 ?_
        refine lf_goto ?_
        cases h
        exact mj_w_weak (ls := [.ref mj_SC, .ref 0, .ref 389, .ref 404, .int (nI i), mj_U, mj_U]) (lf_rl (lf_rl (lf_rl (lf_rl (lf_rl (lf_ri (lf_ri (lf_r0)))))))) (hk _ _ _ (by omega) (by omega))
      · refine lf_iconst lf_c0 ?_
        cases h
  · refine lf_iconst lf_c0 ?_
    cases h
theorem s_case_28 {sc : Nat × (Nat → Int32)} {d i : Nat} {Q : mj_Q} {s p : lf_S} {cl : Bool} {rc rs : Nat} (hd : 300 ≤ d) (hi : i + 6 ≤ sc.1) (hsc : sc.1 ≤ 3072) (hrc : 1 ≤ rc) (hrs : 6 ≤ rs) (h : f_case_28 (sc.2 (i + 1)) (sc.2 (i + 2)) s = some p) (hk : ∀ cl' rc' rs', rc - 1 ≤ rc' → rs - 6 ≤ rs' → lf_wp sc d j_Lw_lawmain Q 3141 [.ref mj_SC, .ref 0, .ref 389, .ref 404, .int (nI i), mj_U, mj_U] [] (lf_hp p) cl' rc' rs') : lf_wp sc d j_Lw_lawmain Q 1847 [.ref mj_SC, .ref 0, .ref 389, .ref 404, .int (nI i), mj_U, mj_U] [] (lf_hp s) cl rc rs := by
  unfold f_case_28 at h
  refine lf_blk B_Lw_lawmain_1847 ?_
  refine lf_aload rfl ?_
  refine lf_aload rfl ?_
  refine lf_iload rfl ?_
  refine lf_iconst lf_c1 ?_
  refine lf_iadd ?_
  refine lf_scr (k := 1) hi hsc (by decide) rfl ?_
  refine lf_aload rfl ?_
  refine lf_iload rfl ?_
  refine lf_iconst lf_c2 ?_
  refine lf_iadd ?_
  refine lf_scr (k := 2) hi hsc (by decide) rfl ?_
  refine lf_aload rfl ?_
  refine lf_callSo (as := [.ref 0, .int (sc.2 (i + 1)), .int (sc.2 (i + 2)), .ref 404]) (rest := []) h rfl rfl (Nat.le_trans (by decide) hd) rfl rfl hrc hrs (fun p1 h9 => s_Lw_rod h9) ?_
  intro p1 p1c h
  refine lf_istore (L := fun y2 => [.ref mj_SC, .ref 0, .ref 389, .ref 404, .int (nI i), .int y2, mj_U]) h rfl rfl (fun _ => rfl) ?_
  intro y2 h
  refine lf_aload rfl ?_
  refine lf_aload rfl ?_
  refine lf_iload rfl ?_
  refine lf_iconst lf_c1 ?_
  refine lf_iadd ?_
  refine lf_scr (k := 1) hi hsc (by decide) rfl ?_
  refine lf_aload rfl ?_
  refine lf_iload rfl ?_
  refine lf_iconst lf_c2 ?_
  refine lf_iadd ?_
  refine lf_scr (k := 2) hi hsc (by decide) rfl ?_
  refine lf_callVWi (as := [.int (sc.2 (i + 1)), .int (sc.2 (i + 2))]) (rest := []) h rfl rfl lf_a389 rfl (Nat.le_trans (by decide) hd) rfl rfl (fun p3 h9 => s_Mod_rod h9) ?_
  intro p3 h
  refine lf_istore (L := fun y4 => [.ref mj_SC, .ref 0, .ref 389, .ref 404, .int (nI i), .int y2, .int y4]) h rfl rfl (fun _ => rfl) ?_
  intro y4 h
  refine lf_aload rfl ?_
  refine lf_callVRi (as := []) (rest := []) h rfl rfl lf_a389 rfl (Nat.le_trans (by decide) hd) rfl rfl (fun p5 h9 => s_Mod_thrown h9) ?_
  intro p5 h
  refine lf_iload rfl ?_
  refine lf_icmp_eq h (fun h => ?_) (fun h => ?_)
  · refine lf_blk B_Lw_lawmain_1895 ?_
    refine lf_iload rfl ?_
    refine lf_if_ne h (fun h => ?_) (fun h => ?_)
    · refine lf_blk B_Lw_lawmain_1912 ?_
      refine lf_goto ?_
      cases h
      exact mj_w_weak (ls := [.ref mj_SC, .ref 0, .ref 389, .ref 404, .int (nI i), mj_U, mj_U]) (lf_rl (lf_rl (lf_rl (lf_rl (lf_rl (lf_ri (lf_ri (lf_r0)))))))) (hk _ _ _ (by omega) (by omega))
    · refine lf_aload rfl ?_
      refine lf_iconst lf_c0 ?_
      refine lf_lald h lf_a404 ?_
      intro k6 h
      refine lf_iload rfl ?_
      refine lf_i2l ?_
      refine lf_lcmp ?_
      refine lf_if_eq h (fun h => ?_) (fun h => ?_)
      · refine lf_blk B_Lw_lawmain_1912 ?_
        refine lf_goto ?_
        cases h
        exact mj_w_weak (ls := [.ref mj_SC, .ref 0, .ref 389, .ref 404, .int (nI i), mj_U, mj_U]) (lf_rl (lf_rl (lf_rl (lf_rl (lf_rl (lf_ri (lf_ri (lf_r0)))))))) (hk _ _ _ (by omega) (by omega))
      · refine lf_iconst lf_c0 ?_
        cases h
  · refine lf_iconst lf_c0 ?_
    cases h
theorem s_case_29 {sc : Nat × (Nat → Int32)} {d i : Nat} {Q : mj_Q} {s p : lf_S} {cl : Bool} {rc rs : Nat} (hd : 300 ≤ d) (hi : i + 6 ≤ sc.1) (hsc : sc.1 ≤ 3072) (hrc : 1 ≤ rc) (hrs : 6 ≤ rs) (h : f_case_29 (sc.2 (i + 1)) s = some p) (hk : ∀ cl' rc' rs', rc - 1 ≤ rc' → rs - 6 ≤ rs' → lf_wp sc d j_Lw_lawmain Q 3141 [.ref mj_SC, .ref 0, .ref 389, .ref 404, .int (nI i), mj_U, mj_U] [] (lf_hp p) cl' rc' rs') : lf_wp sc d j_Lw_lawmain Q 1915 [.ref mj_SC, .ref 0, .ref 389, .ref 404, .int (nI i), mj_U, mj_U] [] (lf_hp s) cl rc rs := by
  unfold f_case_29 at h
  refine lf_blk B_Lw_lawmain_1915 ?_
  refine lf_aload rfl ?_
  refine lf_aload rfl ?_
  refine lf_iload rfl ?_
  refine lf_iconst lf_c1 ?_
  refine lf_iadd ?_
  refine lf_scr (k := 1) hi hsc (by decide) rfl ?_
  refine lf_if_eq h (fun h => ?_) (fun h => ?_)
  · refine lf_blk B_Lw_lawmain_1929 ?_
    refine lf_iconst lf_c0 ?_
    refine lf_end ?_
    refine lf_blk B_Lw_lawmain_1930 ?_
    refine lf_aload rfl ?_
    refine lf_callSo (as := [.ref 0, .int (0 : Int32), .ref 404]) (rest := []) h rfl rfl (Nat.le_trans (by decide) hd) rfl rfl hrc hrs (fun p1 h9 => s_Lw_found h9) ?_
    intro p1 p1c h
    refine lf_istore (L := fun y2 => [.ref mj_SC, .ref 0, .ref 389, .ref 404, .int (nI i), .int y2, mj_U]) h rfl rfl (fun _ => rfl) ?_
    intro y2 h
    refine lf_aload rfl ?_
    refine lf_aload rfl ?_
    refine lf_iload rfl ?_
    refine lf_iconst lf_c1 ?_
    refine lf_iadd ?_
    refine lf_scr (k := 1) hi hsc (by decide) rfl ?_
    refine lf_if_eq h (fun h => ?_) (fun h => ?_)
    · refine lf_blk B_Lw_lawmain_1950 ?_
      refine lf_iconst lf_c0 ?_
      refine lf_end ?_
      refine lf_blk B_Lw_lawmain_1951 ?_
      refine lf_callVWi (as := [.int (0 : Int32)]) (rest := []) h rfl rfl lf_a389 rfl (Nat.le_trans (by decide) hd) rfl rfl (fun p3 h9 => s_Mod_found h9) ?_
      intro p3 h
      refine lf_istore (L := fun y4 => [.ref mj_SC, .ref 0, .ref 389, .ref 404, .int (nI i), .int y2, .int y4]) h rfl rfl (fun _ => rfl) ?_
      intro y4 h
      refine lf_aload rfl ?_
      refine lf_callVRi (as := []) (rest := []) h rfl rfl lf_a389 rfl (Nat.le_trans (by decide) hd) rfl rfl (fun p5 h9 => s_Mod_thrown h9) ?_
      intro p5 h
      refine lf_iload rfl ?_
      refine lf_icmp_eq h (fun h => ?_) (fun h => ?_)
      · refine lf_blk B_Lw_lawmain_1967 ?_
        refine lf_iload rfl ?_
        refine lf_if_ne h (fun h => ?_) (fun h => ?_)
        · refine lf_blk B_Lw_lawmain_1984 ?_
          refine lf_goto ?_
          cases h
          exact mj_w_weak (ls := [.ref mj_SC, .ref 0, .ref 389, .ref 404, .int (nI i), mj_U, mj_U]) (lf_rl (lf_rl (lf_rl (lf_rl (lf_rl (lf_ri (lf_ri (lf_r0)))))))) (hk _ _ _ (by omega) (by omega))
        · refine lf_aload rfl ?_
          refine lf_iconst lf_c0 ?_
          refine lf_lald h lf_a404 ?_
          intro k6 h
          refine lf_iload rfl ?_
          refine lf_i2l ?_
          refine lf_lcmp ?_
          refine lf_if_eq h (fun h => ?_) (fun h => ?_)
          · refine lf_blk B_Lw_lawmain_1984 ?_
            refine lf_goto ?_
            cases h
            exact mj_w_weak (ls := [.ref mj_SC, .ref 0, .ref 389, .ref 404, .int (nI i), mj_U, mj_U]) (lf_rl (lf_rl (lf_rl (lf_rl (lf_rl (lf_ri (lf_ri (lf_r0)))))))) (hk _ _ _ (by omega) (by omega))
          · refine lf_iconst lf_c0 ?_
            cases h
      · refine lf_iconst lf_c0 ?_
        cases h
    · refine lf_iconst lf_c1 ?_
      refine lf_goto ?_
      refine lf_blk B_Lw_lawmain_1951 ?_
      refine lf_callVWi (as := [.int (1 : Int32)]) (rest := []) h rfl rfl lf_a389 rfl (Nat.le_trans (by decide) hd) rfl rfl (fun p7 h9 => s_Mod_found h9) ?_
      intro p7 h
      refine lf_istore (L := fun y8 => [.ref mj_SC, .ref 0, .ref 389, .ref 404, .int (nI i), .int y2, .int y8]) h rfl rfl (fun _ => rfl) ?_
      intro y8 h
      refine lf_aload rfl ?_
      refine lf_callVRi (as := []) (rest := []) h rfl rfl lf_a389 rfl (Nat.le_trans (by decide) hd) rfl rfl (fun p9 h9 => s_Mod_thrown h9) ?_
      intro p9 h
      refine lf_iload rfl ?_
      refine lf_icmp_eq h (fun h => ?_) (fun h => ?_)
      · refine lf_blk B_Lw_lawmain_1967 ?_
        refine lf_iload rfl ?_
        refine lf_if_ne h (fun h => ?_) (fun h => ?_)
        · refine lf_blk B_Lw_lawmain_1984 ?_
          refine lf_goto ?_
          cases h
          exact mj_w_weak (ls := [.ref mj_SC, .ref 0, .ref 389, .ref 404, .int (nI i), mj_U, mj_U]) (lf_rl (lf_rl (lf_rl (lf_rl (lf_rl (lf_ri (lf_ri (lf_r0)))))))) (hk _ _ _ (by omega) (by omega))
        · refine lf_aload rfl ?_
          refine lf_iconst lf_c0 ?_
          refine lf_lald h lf_a404 ?_
          intro k10 h
          refine lf_iload rfl ?_
          refine lf_i2l ?_
          refine lf_lcmp ?_
          refine lf_if_eq h (fun h => ?_) (fun h => ?_)
          · refine lf_blk B_Lw_lawmain_1984 ?_
            refine lf_goto ?_
            cases h
            exact mj_w_weak (ls := [.ref mj_SC, .ref 0, .ref 389, .ref 404, .int (nI i), mj_U, mj_U]) (lf_rl (lf_rl (lf_rl (lf_rl (lf_rl (lf_ri (lf_ri (lf_r0)))))))) (hk _ _ _ (by omega) (by omega))
          · refine lf_iconst lf_c0 ?_
            cases h
      · refine lf_iconst lf_c0 ?_
        cases h
  · refine lf_iconst lf_c1 ?_
    refine lf_goto ?_
    refine lf_blk B_Lw_lawmain_1930 ?_
    refine lf_aload rfl ?_
    refine lf_callSo (as := [.ref 0, .int (1 : Int32), .ref 404]) (rest := []) h rfl rfl (Nat.le_trans (by decide) hd) rfl rfl hrc hrs (fun p11 h9 => s_Lw_found h9) ?_
    intro p11 p11c h
    refine lf_istore (L := fun y12 => [.ref mj_SC, .ref 0, .ref 389, .ref 404, .int (nI i), .int y12, mj_U]) h rfl rfl (fun _ => rfl) ?_
    intro y12 h
    refine lf_aload rfl ?_
    refine lf_aload rfl ?_
    refine lf_iload rfl ?_
    refine lf_iconst lf_c1 ?_
    refine lf_iadd ?_
    refine lf_scr (k := 1) hi hsc (by decide) rfl ?_
    refine lf_if_eq h (fun h => ?_) (fun h => ?_)
    · refine lf_blk B_Lw_lawmain_1950 ?_
      refine lf_iconst lf_c0 ?_
      refine lf_end ?_
      refine lf_blk B_Lw_lawmain_1951 ?_
      refine lf_callVWi (as := [.int (0 : Int32)]) (rest := []) h rfl rfl lf_a389 rfl (Nat.le_trans (by decide) hd) rfl rfl (fun p13 h9 => s_Mod_found h9) ?_
      intro p13 h
      refine lf_istore (L := fun y14 => [.ref mj_SC, .ref 0, .ref 389, .ref 404, .int (nI i), .int y12, .int y14]) h rfl rfl (fun _ => rfl) ?_
      intro y14 h
      refine lf_aload rfl ?_
      refine lf_callVRi (as := []) (rest := []) h rfl rfl lf_a389 rfl (Nat.le_trans (by decide) hd) rfl rfl (fun p15 h9 => s_Mod_thrown h9) ?_
      intro p15 h
      refine lf_iload rfl ?_
      refine lf_icmp_eq h (fun h => ?_) (fun h => ?_)
      · refine lf_blk B_Lw_lawmain_1967 ?_
        refine lf_iload rfl ?_
        refine lf_if_ne h (fun h => ?_) (fun h => ?_)
        · refine lf_blk B_Lw_lawmain_1984 ?_
          refine lf_goto ?_
          cases h
          exact mj_w_weak (ls := [.ref mj_SC, .ref 0, .ref 389, .ref 404, .int (nI i), mj_U, mj_U]) (lf_rl (lf_rl (lf_rl (lf_rl (lf_rl (lf_ri (lf_ri (lf_r0)))))))) (hk _ _ _ (by omega) (by omega))
        · refine lf_aload rfl ?_
          refine lf_iconst lf_c0 ?_
          refine lf_lald h lf_a404 ?_
          intro k16 h
          refine lf_iload rfl ?_
          refine lf_i2l ?_
          refine lf_lcmp ?_
          refine lf_if_eq h (fun h => ?_) (fun h => ?_)
          · refine lf_blk B_Lw_lawmain_1984 ?_
            refine lf_goto ?_
            cases h
            exact mj_w_weak (ls := [.ref mj_SC, .ref 0, .ref 389, .ref 404, .int (nI i), mj_U, mj_U]) (lf_rl (lf_rl (lf_rl (lf_rl (lf_rl (lf_ri (lf_ri (lf_r0)))))))) (hk _ _ _ (by omega) (by omega))
          · refine lf_iconst lf_c0 ?_
            cases h
      · refine lf_iconst lf_c0 ?_
        cases h
    · refine lf_iconst lf_c1 ?_
      refine lf_goto ?_
      refine lf_blk B_Lw_lawmain_1951 ?_
      refine lf_callVWi (as := [.int (1 : Int32)]) (rest := []) h rfl rfl lf_a389 rfl (Nat.le_trans (by decide) hd) rfl rfl (fun p17 h9 => s_Mod_found h9) ?_
      intro p17 h
      refine lf_istore (L := fun y18 => [.ref mj_SC, .ref 0, .ref 389, .ref 404, .int (nI i), .int y12, .int y18]) h rfl rfl (fun _ => rfl) ?_
      intro y18 h
      refine lf_aload rfl ?_
      refine lf_callVRi (as := []) (rest := []) h rfl rfl lf_a389 rfl (Nat.le_trans (by decide) hd) rfl rfl (fun p19 h9 => s_Mod_thrown h9) ?_
      intro p19 h
      refine lf_iload rfl ?_
      refine lf_icmp_eq h (fun h => ?_) (fun h => ?_)
      · refine lf_blk B_Lw_lawmain_1967 ?_
        refine lf_iload rfl ?_
        refine lf_if_ne h (fun h => ?_) (fun h => ?_)
        · refine lf_blk B_Lw_lawmain_1984 ?_
          refine lf_goto ?_
          cases h
          exact mj_w_weak (ls := [.ref mj_SC, .ref 0, .ref 389, .ref 404, .int (nI i), mj_U, mj_U]) (lf_rl (lf_rl (lf_rl (lf_rl (lf_rl (lf_ri (lf_ri (lf_r0)))))))) (hk _ _ _ (by omega) (by omega))
        · refine lf_aload rfl ?_
          refine lf_iconst lf_c0 ?_
          refine lf_lald h lf_a404 ?_
          intro k20 h
          refine lf_iload rfl ?_
          refine lf_i2l ?_
          refine lf_lcmp ?_
          refine lf_if_eq h (fun h => ?_) (fun h => ?_)
          · refine lf_blk B_Lw_lawmain_1984 ?_
            refine lf_goto ?_
            cases h
            exact mj_w_weak (ls := [.ref mj_SC, .ref 0, .ref 389, .ref 404, .int (nI i), mj_U, mj_U]) (lf_rl (lf_rl (lf_rl (lf_rl (lf_rl (lf_ri (lf_ri (lf_r0)))))))) (hk _ _ _ (by omega) (by omega))
          · refine lf_iconst lf_c0 ?_
            cases h
      · refine lf_iconst lf_c0 ?_
        cases h
theorem s_case_30 {sc : Nat × (Nat → Int32)} {d i : Nat} {Q : mj_Q} {s p : lf_S} {cl : Bool} {rc rs : Nat} (hd : 300 ≤ d) (hi : i + 6 ≤ sc.1) (hsc : sc.1 ≤ 3072) (hrc : 1 ≤ rc) (hrs : 6 ≤ rs) (h : f_case_30 s = some p) (hk : ∀ cl' rc' rs', rc - 1 ≤ rc' → rs - 6 ≤ rs' → lf_wp sc d j_Lw_lawmain Q 3141 [.ref mj_SC, .ref 0, .ref 389, .ref 404, .int (nI i), mj_U, mj_U] [] (lf_hp p) cl' rc' rs') : lf_wp sc d j_Lw_lawmain Q 1987 [.ref mj_SC, .ref 0, .ref 389, .ref 404, .int (nI i), mj_U, mj_U] [] (lf_hp s) cl rc rs := by
  unfold f_case_30 at h
  refine lf_blk B_Lw_lawmain_1987 ?_
  refine lf_aload rfl ?_
  refine lf_aload rfl ?_
  refine lf_callSo (as := [.ref 0, .ref 404]) (rest := []) h rfl rfl (Nat.le_trans (by decide) hd) rfl rfl hrc hrs (fun p1 h9 => s_Lw_look h9) ?_
  intro p1 p1c h
  refine lf_istore (L := fun y2 => [.ref mj_SC, .ref 0, .ref 389, .ref 404, .int (nI i), .int y2, mj_U]) h rfl rfl (fun _ => rfl) ?_
  intro y2 h
  refine lf_aload rfl ?_
  refine lf_callVWi (as := []) (rest := []) h rfl rfl lf_a389 rfl (Nat.le_trans (by decide) hd) rfl rfl (fun p3 h9 => s_Mod_look h9) ?_
  intro p3 h
  refine lf_istore (L := fun y4 => [.ref mj_SC, .ref 0, .ref 389, .ref 404, .int (nI i), .int y2, .int y4]) h rfl rfl (fun _ => rfl) ?_
  intro y4 h
  refine lf_aload rfl ?_
  refine lf_callVRi (as := []) (rest := []) h rfl rfl lf_a389 rfl (Nat.le_trans (by decide) hd) rfl rfl (fun p5 h9 => s_Mod_thrown h9) ?_
  intro p5 h
  refine lf_iload rfl ?_
  refine lf_icmp_eq h (fun h => ?_) (fun h => ?_)
  · refine lf_blk B_Lw_lawmain_2011 ?_
    refine lf_iload rfl ?_
    refine lf_if_ne h (fun h => ?_) (fun h => ?_)
    · refine lf_blk B_Lw_lawmain_2028 ?_
      refine lf_goto ?_
      cases h
      exact mj_w_weak (ls := [.ref mj_SC, .ref 0, .ref 389, .ref 404, .int (nI i), mj_U, mj_U]) (lf_rl (lf_rl (lf_rl (lf_rl (lf_rl (lf_ri (lf_ri (lf_r0)))))))) (hk _ _ _ (by omega) (by omega))
    · refine lf_aload rfl ?_
      refine lf_iconst lf_c0 ?_
      refine lf_lald h lf_a404 ?_
      intro k6 h
      refine lf_iload rfl ?_
      refine lf_i2l ?_
      refine lf_lcmp ?_
      refine lf_if_eq h (fun h => ?_) (fun h => ?_)
      · refine lf_blk B_Lw_lawmain_2028 ?_
        refine lf_goto ?_
        cases h
        exact mj_w_weak (ls := [.ref mj_SC, .ref 0, .ref 389, .ref 404, .int (nI i), mj_U, mj_U]) (lf_rl (lf_rl (lf_rl (lf_rl (lf_rl (lf_ri (lf_ri (lf_r0)))))))) (hk _ _ _ (by omega) (by omega))
      · refine lf_iconst lf_c0 ?_
        cases h
  · refine lf_iconst lf_c0 ?_
    cases h
theorem s_case_31 {sc : Nat × (Nat → Int32)} {d i : Nat} {Q : mj_Q} {s p : lf_S} {cl : Bool} {rc rs : Nat} (hd : 300 ≤ d) (hi : i + 6 ≤ sc.1) (hsc : sc.1 ≤ 3072) (hrc : 1 ≤ rc) (hrs : 6 ≤ rs) (h : f_case_31 (sc.2 (i + 1)) s = some p) (hk : ∀ cl' rc' rs', rc - 1 ≤ rc' → rs - 6 ≤ rs' → lf_wp sc d j_Lw_lawmain Q 3141 [.ref mj_SC, .ref 0, .ref 389, .ref 404, .int (nI i), mj_U, mj_U] [] (lf_hp p) cl' rc' rs') : lf_wp sc d j_Lw_lawmain Q 2031 [.ref mj_SC, .ref 0, .ref 389, .ref 404, .int (nI i), mj_U, mj_U] [] (lf_hp s) cl rc rs := by
  unfold f_case_31 at h
  refine lf_blk B_Lw_lawmain_2031 ?_
  refine lf_aload rfl ?_
  refine lf_aload rfl ?_
  refine lf_iload rfl ?_
  refine lf_iconst lf_c1 ?_
  refine lf_iadd ?_
  refine lf_scr (k := 1) hi hsc (by decide) rfl ?_
  refine lf_aload rfl ?_
  refine lf_callSo (as := [.ref 0, .int (sc.2 (i + 1)), .ref 404]) (rest := []) h rfl rfl (Nat.le_trans (by decide) hd) rfl rfl hrc hrs (fun p1 h9 => s_Lw_team h9) ?_
  intro p1 p1c h
  refine lf_istore (L := fun y2 => [.ref mj_SC, .ref 0, .ref 389, .ref 404, .int (nI i), .int y2, mj_U]) h rfl rfl (fun _ => rfl) ?_
  intro y2 h
  refine lf_aload rfl ?_
  refine lf_aload rfl ?_
  refine lf_iload rfl ?_
  refine lf_iconst lf_c1 ?_
  refine lf_iadd ?_
  refine lf_scr (k := 1) hi hsc (by decide) rfl ?_
  refine lf_callVWi (as := [.int (sc.2 (i + 1))]) (rest := []) h rfl rfl lf_a389 rfl (Nat.le_trans (by decide) hd) rfl rfl (fun p3 h9 => s_Mod_team h9) ?_
  intro p3 h
  refine lf_istore (L := fun y4 => [.ref mj_SC, .ref 0, .ref 389, .ref 404, .int (nI i), .int y2, .int y4]) h rfl rfl (fun _ => rfl) ?_
  intro y4 h
  refine lf_aload rfl ?_
  refine lf_callVRi (as := []) (rest := []) h rfl rfl lf_a389 rfl (Nat.le_trans (by decide) hd) rfl rfl (fun p5 h9 => s_Mod_thrown h9) ?_
  intro p5 h
  refine lf_iload rfl ?_
  refine lf_icmp_eq h (fun h => ?_) (fun h => ?_)
  · refine lf_blk B_Lw_lawmain_2067 ?_
    refine lf_iload rfl ?_
    refine lf_if_ne h (fun h => ?_) (fun h => ?_)
    · refine lf_blk B_Lw_lawmain_2084 ?_
      refine lf_goto ?_
      cases h
      exact mj_w_weak (ls := [.ref mj_SC, .ref 0, .ref 389, .ref 404, .int (nI i), mj_U, mj_U]) (lf_rl (lf_rl (lf_rl (lf_rl (lf_rl (lf_ri (lf_ri (lf_r0)))))))) (hk _ _ _ (by omega) (by omega))
    · refine lf_aload rfl ?_
      refine lf_iconst lf_c0 ?_
      refine lf_lald h lf_a404 ?_
      intro k6 h
      refine lf_iload rfl ?_
      refine lf_i2l ?_
      refine lf_lcmp ?_
      refine lf_if_eq h (fun h => ?_) (fun h => ?_)
      · refine lf_blk B_Lw_lawmain_2084 ?_
        refine lf_goto ?_
        cases h
        exact mj_w_weak (ls := [.ref mj_SC, .ref 0, .ref 389, .ref 404, .int (nI i), mj_U, mj_U]) (lf_rl (lf_rl (lf_rl (lf_rl (lf_rl (lf_ri (lf_ri (lf_r0)))))))) (hk _ _ _ (by omega) (by omega))
      · refine lf_iconst lf_c0 ?_
        cases h
  · refine lf_iconst lf_c0 ?_
    cases h
theorem s_case_32 {sc : Nat × (Nat → Int32)} {d i : Nat} {Q : mj_Q} {s p : lf_S} {cl : Bool} {rc rs : Nat} (hd : 300 ≤ d) (hi : i + 6 ≤ sc.1) (hsc : sc.1 ≤ 3072) (hrc : 1 ≤ rc) (hrs : 6 ≤ rs) (h : f_case_32 (sc.2 (i + 1)) s = some p) (hk : ∀ cl' rc' rs', rc - 1 ≤ rc' → rs - 6 ≤ rs' → lf_wp sc d j_Lw_lawmain Q 3141 [.ref mj_SC, .ref 0, .ref 389, .ref 404, .int (nI i), mj_U, mj_U] [] (lf_hp p) cl' rc' rs') : lf_wp sc d j_Lw_lawmain Q 2087 [.ref mj_SC, .ref 0, .ref 389, .ref 404, .int (nI i), mj_U, mj_U] [] (lf_hp s) cl rc rs := by
  unfold f_case_32 at h
  refine lf_blk B_Lw_lawmain_2087 ?_
  refine lf_aload rfl ?_
  refine lf_aload rfl ?_
  refine lf_iload rfl ?_
  refine lf_iconst lf_c1 ?_
  refine lf_iadd ?_
  refine lf_scr (k := 1) hi hsc (by decide) rfl ?_
  refine lf_aload rfl ?_
  refine lf_callSo (as := [.ref 0, .int (sc.2 (i + 1)), .ref 404]) (rest := []) h rfl rfl (Nat.le_trans (by decide) hd) rfl rfl hrc hrs (fun p1 h9 => s_Lw_pairs h9) ?_
  intro p1 p1c h
  refine lf_istore (L := fun y2 => [.ref mj_SC, .ref 0, .ref 389, .ref 404, .int (nI i), .int y2, mj_U]) h rfl rfl (fun _ => rfl) ?_
  intro y2 h
  refine lf_aload rfl ?_
  refine lf_aload rfl ?_
  refine lf_iload rfl ?_
  refine lf_iconst lf_c1 ?_
  refine lf_iadd ?_
  refine lf_scr (k := 1) hi hsc (by decide) rfl ?_
  refine lf_callVWi (as := [.int (sc.2 (i + 1))]) (rest := []) h rfl rfl lf_a389 rfl (Nat.le_trans (by decide) hd) rfl rfl (fun p3 h9 => s_Mod_pairs h9) ?_
  intro p3 h
  refine lf_istore (L := fun y4 => [.ref mj_SC, .ref 0, .ref 389, .ref 404, .int (nI i), .int y2, .int y4]) h rfl rfl (fun _ => rfl) ?_
  intro y4 h
  refine lf_aload rfl ?_
  refine lf_callVRi (as := []) (rest := []) h rfl rfl lf_a389 rfl (Nat.le_trans (by decide) hd) rfl rfl (fun p5 h9 => s_Mod_thrown h9) ?_
  intro p5 h
  refine lf_iload rfl ?_
  refine lf_icmp_eq h (fun h => ?_) (fun h => ?_)
  · refine lf_blk B_Lw_lawmain_2123 ?_
    refine lf_iload rfl ?_
    refine lf_if_ne h (fun h => ?_) (fun h => ?_)
    · refine lf_blk B_Lw_lawmain_2140 ?_
      refine lf_goto ?_
      cases h
      exact mj_w_weak (ls := [.ref mj_SC, .ref 0, .ref 389, .ref 404, .int (nI i), mj_U, mj_U]) (lf_rl (lf_rl (lf_rl (lf_rl (lf_rl (lf_ri (lf_ri (lf_r0)))))))) (hk _ _ _ (by omega) (by omega))
    · refine lf_aload rfl ?_
      refine lf_iconst lf_c0 ?_
      refine lf_lald h lf_a404 ?_
      intro k6 h
      refine lf_iload rfl ?_
      refine lf_i2l ?_
      refine lf_lcmp ?_
      refine lf_if_eq h (fun h => ?_) (fun h => ?_)
      · refine lf_blk B_Lw_lawmain_2140 ?_
        refine lf_goto ?_
        cases h
        exact mj_w_weak (ls := [.ref mj_SC, .ref 0, .ref 389, .ref 404, .int (nI i), mj_U, mj_U]) (lf_rl (lf_rl (lf_rl (lf_rl (lf_rl (lf_ri (lf_ri (lf_r0)))))))) (hk _ _ _ (by omega) (by omega))
      · refine lf_iconst lf_c0 ?_
        cases h
  · refine lf_iconst lf_c0 ?_
    cases h
theorem s_case_33 {sc : Nat × (Nat → Int32)} {d i : Nat} {Q : mj_Q} {s p : lf_S} {cl : Bool} {rc rs : Nat} (hd : 300 ≤ d) (hi : i + 6 ≤ sc.1) (hsc : sc.1 ≤ 3072) (hrc : 1 ≤ rc) (hrs : 6 ≤ rs) (h : f_case_33 (sc.2 (i + 1)) (sc.2 (i + 2)) s = some p) (hk : ∀ cl' rc' rs', rc - 1 ≤ rc' → rs - 6 ≤ rs' → lf_wp sc d j_Lw_lawmain Q 3141 [.ref mj_SC, .ref 0, .ref 389, .ref 404, .int (nI i), mj_U, mj_U] [] (lf_hp p) cl' rc' rs') : lf_wp sc d j_Lw_lawmain Q 2143 [.ref mj_SC, .ref 0, .ref 389, .ref 404, .int (nI i), mj_U, mj_U] [] (lf_hp s) cl rc rs := by
  unfold f_case_33 at h
  refine lf_blk B_Lw_lawmain_2143 ?_
  refine lf_aload rfl ?_
  refine lf_aload rfl ?_
  refine lf_iload rfl ?_
  refine lf_iconst lf_c1 ?_
  refine lf_iadd ?_
  refine lf_scr (k := 1) hi hsc (by decide) rfl ?_
  refine lf_aload rfl ?_
  refine lf_iload rfl ?_
  refine lf_iconst lf_c2 ?_
  refine lf_iadd ?_
  refine lf_scr (k := 2) hi hsc (by decide) rfl ?_
  refine lf_aload rfl ?_
  refine lf_callSo (as := [.ref 0, .int (sc.2 (i + 1)), .int (sc.2 (i + 2)), .ref 404]) (rest := []) h rfl rfl (Nat.le_trans (by decide) hd) rfl rfl hrc hrs (fun p1 h9 => s_Lw_change h9) ?_
  intro p1 p1c h
  refine lf_istore (L := fun y2 => [.ref mj_SC, .ref 0, .ref 389, .ref 404, .int (nI i), .int y2, mj_U]) h rfl rfl (fun _ => rfl) ?_
  intro y2 h
  refine lf_aload rfl ?_
  refine lf_aload rfl ?_
  refine lf_iload rfl ?_
  refine lf_iconst lf_c1 ?_
  refine lf_iadd ?_
  refine lf_scr (k := 1) hi hsc (by decide) rfl ?_
  refine lf_aload rfl ?_
  refine lf_iload rfl ?_
  refine lf_iconst lf_c2 ?_
  refine lf_iadd ?_
  refine lf_scr (k := 2) hi hsc (by decide) rfl ?_
  refine lf_callVWi (as := [.int (sc.2 (i + 1)), .int (sc.2 (i + 2))]) (rest := []) h rfl rfl lf_a389 rfl (Nat.le_trans (by decide) hd) rfl rfl (fun p3 h9 => s_Mod_change h9) ?_
  intro p3 h
  refine lf_istore (L := fun y4 => [.ref mj_SC, .ref 0, .ref 389, .ref 404, .int (nI i), .int y2, .int y4]) h rfl rfl (fun _ => rfl) ?_
  intro y4 h
  refine lf_aload rfl ?_
  refine lf_callVRi (as := []) (rest := []) h rfl rfl lf_a389 rfl (Nat.le_trans (by decide) hd) rfl rfl (fun p5 h9 => s_Mod_thrown h9) ?_
  intro p5 h
  refine lf_iload rfl ?_
  refine lf_icmp_eq h (fun h => ?_) (fun h => ?_)
  · refine lf_blk B_Lw_lawmain_2191 ?_
    refine lf_iload rfl ?_
    refine lf_if_ne h (fun h => ?_) (fun h => ?_)
    · refine lf_blk B_Lw_lawmain_2208 ?_
      refine lf_goto ?_
      cases h
      exact mj_w_weak (ls := [.ref mj_SC, .ref 0, .ref 389, .ref 404, .int (nI i), mj_U, mj_U]) (lf_rl (lf_rl (lf_rl (lf_rl (lf_rl (lf_ri (lf_ri (lf_r0)))))))) (hk _ _ _ (by omega) (by omega))
    · refine lf_aload rfl ?_
      refine lf_iconst lf_c0 ?_
      refine lf_lald h lf_a404 ?_
      intro k6 h
      refine lf_iload rfl ?_
      refine lf_i2l ?_
      refine lf_lcmp ?_
      refine lf_if_eq h (fun h => ?_) (fun h => ?_)
      · refine lf_blk B_Lw_lawmain_2208 ?_
        refine lf_goto ?_
        cases h
        exact mj_w_weak (ls := [.ref mj_SC, .ref 0, .ref 389, .ref 404, .int (nI i), mj_U, mj_U]) (lf_rl (lf_rl (lf_rl (lf_rl (lf_rl (lf_ri (lf_ri (lf_r0)))))))) (hk _ _ _ (by omega) (by omega))
      · refine lf_iconst lf_c0 ?_
        cases h
  · refine lf_iconst lf_c0 ?_
    cases h
theorem s_case_34 {sc : Nat × (Nat → Int32)} {d i : Nat} {Q : mj_Q} {s p : lf_S} {cl : Bool} {rc rs : Nat} (hd : 300 ≤ d) (hi : i + 6 ≤ sc.1) (hsc : sc.1 ≤ 3072) (hrc : 1 ≤ rc) (hrs : 6 ≤ rs) (h : f_case_34 (sc.2 (i + 1)) (sc.2 (i + 2)) s = some p) (hk : ∀ cl' rc' rs', rc - 1 ≤ rc' → rs - 6 ≤ rs' → lf_wp sc d j_Lw_lawmain Q 3141 [.ref mj_SC, .ref 0, .ref 389, .ref 404, .int (nI i), mj_U, mj_U] [] (lf_hp p) cl' rc' rs') : lf_wp sc d j_Lw_lawmain Q 2211 [.ref mj_SC, .ref 0, .ref 389, .ref 404, .int (nI i), mj_U, mj_U] [] (lf_hp s) cl rc rs := by
  unfold f_case_34 at h
  refine lf_blk B_Lw_lawmain_2211 ?_
  refine lf_aload rfl ?_
  refine lf_aload rfl ?_
  refine lf_iload rfl ?_
  refine lf_iconst lf_c1 ?_
  refine lf_iadd ?_
  refine lf_scr (k := 1) hi hsc (by decide) rfl ?_
  refine lf_aload rfl ?_
  refine lf_iload rfl ?_
  refine lf_iconst lf_c2 ?_
  refine lf_iadd ?_
  refine lf_scr (k := 2) hi hsc (by decide) rfl ?_
  refine lf_aload rfl ?_
  refine lf_callSo (as := [.ref 0, .int (sc.2 (i + 1)), .int (sc.2 (i + 2)), .ref 404]) (rest := []) h rfl rfl (Nat.le_trans (by decide) hd) rfl rfl hrc hrs (fun p1 h9 => s_Lw_share h9) ?_
  intro p1 p1c h
  refine lf_istore (L := fun y2 => [.ref mj_SC, .ref 0, .ref 389, .ref 404, .int (nI i), .int y2, mj_U]) h rfl rfl (fun _ => rfl) ?_
  intro y2 h
  refine lf_aload rfl ?_
  refine lf_aload rfl ?_
  refine lf_iload rfl ?_
  refine lf_iconst lf_c1 ?_
  refine lf_iadd ?_
  refine lf_scr (k := 1) hi hsc (by decide) rfl ?_
  refine lf_aload rfl ?_
  refine lf_iload rfl ?_
  refine lf_iconst lf_c2 ?_
  refine lf_iadd ?_
  refine lf_scr (k := 2) hi hsc (by decide) rfl ?_
  refine lf_callVWi (as := [.int (sc.2 (i + 1)), .int (sc.2 (i + 2))]) (rest := []) h rfl rfl lf_a389 rfl (Nat.le_trans (by decide) hd) rfl rfl (fun p3 h9 => s_Mod_share h9) ?_
  intro p3 h
  refine lf_istore (L := fun y4 => [.ref mj_SC, .ref 0, .ref 389, .ref 404, .int (nI i), .int y2, .int y4]) h rfl rfl (fun _ => rfl) ?_
  intro y4 h
  refine lf_aload rfl ?_
  refine lf_callVRi (as := []) (rest := []) h rfl rfl lf_a389 rfl (Nat.le_trans (by decide) hd) rfl rfl (fun p5 h9 => s_Mod_thrown h9) ?_
  intro p5 h
  refine lf_iload rfl ?_
  refine lf_icmp_eq h (fun h => ?_) (fun h => ?_)
  · refine lf_blk B_Lw_lawmain_2259 ?_
    refine lf_iload rfl ?_
    refine lf_if_ne h (fun h => ?_) (fun h => ?_)
    · refine lf_blk B_Lw_lawmain_2276 ?_
      refine lf_goto ?_
      cases h
      exact mj_w_weak (ls := [.ref mj_SC, .ref 0, .ref 389, .ref 404, .int (nI i), mj_U, mj_U]) (lf_rl (lf_rl (lf_rl (lf_rl (lf_rl (lf_ri (lf_ri (lf_r0)))))))) (hk _ _ _ (by omega) (by omega))
    · refine lf_aload rfl ?_
      refine lf_iconst lf_c0 ?_
      refine lf_lald h lf_a404 ?_
      intro k6 h
      refine lf_iload rfl ?_
      refine lf_i2l ?_
      refine lf_lcmp ?_
      refine lf_if_eq h (fun h => ?_) (fun h => ?_)
      · refine lf_blk B_Lw_lawmain_2276 ?_
        refine lf_goto ?_
        cases h
        exact mj_w_weak (ls := [.ref mj_SC, .ref 0, .ref 389, .ref 404, .int (nI i), mj_U, mj_U]) (lf_rl (lf_rl (lf_rl (lf_rl (lf_rl (lf_ri (lf_ri (lf_r0)))))))) (hk _ _ _ (by omega) (by omega))
      · refine lf_iconst lf_c0 ?_
        cases h
  · refine lf_iconst lf_c0 ?_
    cases h
theorem s_case_35 {sc : Nat × (Nat → Int32)} {d i : Nat} {Q : mj_Q} {s p : lf_S} {cl : Bool} {rc rs : Nat} (hd : 300 ≤ d) (hi : i + 6 ≤ sc.1) (hsc : sc.1 ≤ 3072) (hrc : 1 ≤ rc) (hrs : 6 ≤ rs) (h : f_case_35 (sc.2 (i + 1)) s = some p) (hk : ∀ cl' rc' rs', rc - 1 ≤ rc' → rs - 6 ≤ rs' → lf_wp sc d j_Lw_lawmain Q 3141 [.ref mj_SC, .ref 0, .ref 389, .ref 404, .int (nI i), mj_U, mj_U] [] (lf_hp p) cl' rc' rs') : lf_wp sc d j_Lw_lawmain Q 2279 [.ref mj_SC, .ref 0, .ref 389, .ref 404, .int (nI i), mj_U, mj_U] [] (lf_hp s) cl rc rs := by
  unfold f_case_35 at h
  refine lf_blk B_Lw_lawmain_2279 ?_
  refine lf_aload rfl ?_
  refine lf_aload rfl ?_
  refine lf_iload rfl ?_
  refine lf_iconst lf_c1 ?_
  refine lf_iadd ?_
  refine lf_scr (k := 1) hi hsc (by decide) rfl ?_
  refine lf_aload rfl ?_
  refine lf_callSo (as := [.ref 0, .int (sc.2 (i + 1)), .ref 404]) (rest := []) h rfl rfl (Nat.le_trans (by decide) hd) rfl rfl hrc hrs (fun p1 h9 => s_Lw_price h9) ?_
  intro p1 p1c h
  refine lf_istore (L := fun y2 => [.ref mj_SC, .ref 0, .ref 389, .ref 404, .int (nI i), .int y2, mj_U]) h rfl rfl (fun _ => rfl) ?_
  intro y2 h
  refine lf_aload rfl ?_
  refine lf_aload rfl ?_
  refine lf_iload rfl ?_
  refine lf_iconst lf_c1 ?_
  refine lf_iadd ?_
  refine lf_scr (k := 1) hi hsc (by decide) rfl ?_
  refine lf_callVWi (as := [.int (sc.2 (i + 1))]) (rest := []) h rfl rfl lf_a389 rfl (Nat.le_trans (by decide) hd) rfl rfl (fun p3 h9 => s_Mod_price h9) ?_
  intro p3 h
  refine lf_istore (L := fun y4 => [.ref mj_SC, .ref 0, .ref 389, .ref 404, .int (nI i), .int y2, .int y4]) h rfl rfl (fun _ => rfl) ?_
  intro y4 h
  refine lf_aload rfl ?_
  refine lf_callVRi (as := []) (rest := []) h rfl rfl lf_a389 rfl (Nat.le_trans (by decide) hd) rfl rfl (fun p5 h9 => s_Mod_thrown h9) ?_
  intro p5 h
  refine lf_iload rfl ?_
  refine lf_icmp_eq h (fun h => ?_) (fun h => ?_)
  · refine lf_blk B_Lw_lawmain_2315 ?_
    refine lf_iload rfl ?_
    refine lf_if_ne h (fun h => ?_) (fun h => ?_)
    · refine lf_blk B_Lw_lawmain_2332 ?_
      refine lf_goto ?_
      cases h
      exact mj_w_weak (ls := [.ref mj_SC, .ref 0, .ref 389, .ref 404, .int (nI i), mj_U, mj_U]) (lf_rl (lf_rl (lf_rl (lf_rl (lf_rl (lf_ri (lf_ri (lf_r0)))))))) (hk _ _ _ (by omega) (by omega))
    · refine lf_aload rfl ?_
      refine lf_iconst lf_c0 ?_
      refine lf_lald h lf_a404 ?_
      intro k6 h
      refine lf_iload rfl ?_
      refine lf_i2l ?_
      refine lf_lcmp ?_
      refine lf_if_eq h (fun h => ?_) (fun h => ?_)
      · refine lf_blk B_Lw_lawmain_2332 ?_
        refine lf_goto ?_
        cases h
        exact mj_w_weak (ls := [.ref mj_SC, .ref 0, .ref 389, .ref 404, .int (nI i), mj_U, mj_U]) (lf_rl (lf_rl (lf_rl (lf_rl (lf_rl (lf_ri (lf_ri (lf_r0)))))))) (hk _ _ _ (by omega) (by omega))
      · refine lf_iconst lf_c0 ?_
        cases h
  · refine lf_iconst lf_c0 ?_
    cases h
theorem s_case_36 {sc : Nat × (Nat → Int32)} {d i : Nat} {Q : mj_Q} {s p : lf_S} {cl : Bool} {rc rs : Nat} (hd : 300 ≤ d) (hi : i + 6 ≤ sc.1) (hsc : sc.1 ≤ 3072) (hrc : 1 ≤ rc) (hrs : 6 ≤ rs) (h : f_case_36 (sc.2 (i + 1)) s = some p) (hk : ∀ cl' rc' rs', rc - 1 ≤ rc' → rs - 6 ≤ rs' → lf_wp sc d j_Lw_lawmain Q 3141 [.ref mj_SC, .ref 0, .ref 389, .ref 404, .int (nI i), mj_U, mj_U] [] (lf_hp p) cl' rc' rs') : lf_wp sc d j_Lw_lawmain Q 2335 [.ref mj_SC, .ref 0, .ref 389, .ref 404, .int (nI i), mj_U, mj_U] [] (lf_hp s) cl rc rs := by
  unfold f_case_36 at h
  refine lf_blk B_Lw_lawmain_2335 ?_
  refine lf_aload rfl ?_
  refine lf_aload rfl ?_
  refine lf_iload rfl ?_
  refine lf_iconst lf_c1 ?_
  refine lf_iadd ?_
  refine lf_scr (k := 1) hi hsc (by decide) rfl ?_
  refine lf_aload rfl ?_
  refine lf_callSo (as := [.ref 0, .int (sc.2 (i + 1)), .ref 404]) (rest := []) h rfl rfl (Nat.le_trans (by decide) hd) rfl rfl hrc hrs (fun p1 h9 => s_Lw_rests h9) ?_
  intro p1 p1c h
  refine lf_istore (L := fun y2 => [.ref mj_SC, .ref 0, .ref 389, .ref 404, .int (nI i), .int y2, mj_U]) h rfl rfl (fun _ => rfl) ?_
  intro y2 h
  refine lf_aload rfl ?_
  refine lf_aload rfl ?_
  refine lf_iload rfl ?_
  refine lf_iconst lf_c1 ?_
  refine lf_iadd ?_
  refine lf_scr (k := 1) hi hsc (by decide) rfl ?_
  refine lf_callVWi (as := [.int (sc.2 (i + 1))]) (rest := []) h rfl rfl lf_a389 rfl (Nat.le_trans (by decide) hd) rfl rfl (fun p3 h9 => s_Mod_rests h9) ?_
  intro p3 h
  refine lf_istore (L := fun y4 => [.ref mj_SC, .ref 0, .ref 389, .ref 404, .int (nI i), .int y2, .int y4]) h rfl rfl (fun _ => rfl) ?_
  intro y4 h
  refine lf_aload rfl ?_
  refine lf_callVRi (as := []) (rest := []) h rfl rfl lf_a389 rfl (Nat.le_trans (by decide) hd) rfl rfl (fun p5 h9 => s_Mod_thrown h9) ?_
  intro p5 h
  refine lf_iload rfl ?_
  refine lf_icmp_eq h (fun h => ?_) (fun h => ?_)
  · refine lf_blk B_Lw_lawmain_2371 ?_
    refine lf_iload rfl ?_
    refine lf_if_ne h (fun h => ?_) (fun h => ?_)
    · refine lf_blk B_Lw_lawmain_2388 ?_
      refine lf_goto ?_
      cases h
      exact mj_w_weak (ls := [.ref mj_SC, .ref 0, .ref 389, .ref 404, .int (nI i), mj_U, mj_U]) (lf_rl (lf_rl (lf_rl (lf_rl (lf_rl (lf_ri (lf_ri (lf_r0)))))))) (hk _ _ _ (by omega) (by omega))
    · refine lf_aload rfl ?_
      refine lf_iconst lf_c0 ?_
      refine lf_lald h lf_a404 ?_
      intro k6 h
      refine lf_iload rfl ?_
      refine lf_i2l ?_
      refine lf_lcmp ?_
      refine lf_if_eq h (fun h => ?_) (fun h => ?_)
      · refine lf_blk B_Lw_lawmain_2388 ?_
        refine lf_goto ?_
        cases h
        exact mj_w_weak (ls := [.ref mj_SC, .ref 0, .ref 389, .ref 404, .int (nI i), mj_U, mj_U]) (lf_rl (lf_rl (lf_rl (lf_rl (lf_rl (lf_ri (lf_ri (lf_r0)))))))) (hk _ _ _ (by omega) (by omega))
      · refine lf_iconst lf_c0 ?_
        cases h
  · refine lf_iconst lf_c0 ?_
    cases h
theorem s_case_37 {sc : Nat × (Nat → Int32)} {d i : Nat} {Q : mj_Q} {s p : lf_S} {cl : Bool} {rc rs : Nat} (hd : 300 ≤ d) (hi : i + 6 ≤ sc.1) (hsc : sc.1 ≤ 3072) (hrc : 1 ≤ rc) (hrs : 6 ≤ rs) (h : f_case_37 (sc.2 (i + 1)) (sc.2 (i + 2)) s = some p) (hk : ∀ cl' rc' rs', rc - 1 ≤ rc' → rs - 6 ≤ rs' → lf_wp sc d j_Lw_lawmain Q 3141 [.ref mj_SC, .ref 0, .ref 389, .ref 404, .int (nI i), mj_U, mj_U] [] (lf_hp p) cl' rc' rs') : lf_wp sc d j_Lw_lawmain Q 2391 [.ref mj_SC, .ref 0, .ref 389, .ref 404, .int (nI i), mj_U, mj_U] [] (lf_hp s) cl rc rs := by
  unfold f_case_37 at h
  refine lf_blk B_Lw_lawmain_2391 ?_
  refine lf_aload rfl ?_
  refine lf_aload rfl ?_
  refine lf_iload rfl ?_
  refine lf_iconst lf_c1 ?_
  refine lf_iadd ?_
  refine lf_scr (k := 1) hi hsc (by decide) rfl ?_
  refine lf_aload rfl ?_
  refine lf_iload rfl ?_
  refine lf_iconst lf_c2 ?_
  refine lf_iadd ?_
  refine lf_scr (k := 2) hi hsc (by decide) rfl ?_
  refine lf_aload rfl ?_
  refine lf_callSo (as := [.ref 0, .int (sc.2 (i + 1)), .int (sc.2 (i + 2)), .ref 404]) (rest := []) h rfl rfl (Nat.le_trans (by decide) hd) rfl rfl hrc hrs (fun p1 h9 => s_Lw_odds h9) ?_
  intro p1 p1c h
  refine lf_istore (L := fun y2 => [.ref mj_SC, .ref 0, .ref 389, .ref 404, .int (nI i), .int y2, mj_U]) h rfl rfl (fun _ => rfl) ?_
  intro y2 h
  refine lf_aload rfl ?_
  refine lf_aload rfl ?_
  refine lf_iload rfl ?_
  refine lf_iconst lf_c1 ?_
  refine lf_iadd ?_
  refine lf_scr (k := 1) hi hsc (by decide) rfl ?_
  refine lf_aload rfl ?_
  refine lf_iload rfl ?_
  refine lf_iconst lf_c2 ?_
  refine lf_iadd ?_
  refine lf_scr (k := 2) hi hsc (by decide) rfl ?_
  refine lf_callVWi (as := [.int (sc.2 (i + 1)), .int (sc.2 (i + 2))]) (rest := []) h rfl rfl lf_a389 rfl (Nat.le_trans (by decide) hd) rfl rfl (fun p3 h9 => s_Mod_odds h9) ?_
  intro p3 h
  refine lf_istore (L := fun y4 => [.ref mj_SC, .ref 0, .ref 389, .ref 404, .int (nI i), .int y2, .int y4]) h rfl rfl (fun _ => rfl) ?_
  intro y4 h
  refine lf_aload rfl ?_
  refine lf_callVRi (as := []) (rest := []) h rfl rfl lf_a389 rfl (Nat.le_trans (by decide) hd) rfl rfl (fun p5 h9 => s_Mod_thrown h9) ?_
  intro p5 h
  refine lf_iload rfl ?_
  refine lf_icmp_eq h (fun h => ?_) (fun h => ?_)
  · refine lf_blk B_Lw_lawmain_2439 ?_
    refine lf_iload rfl ?_
    refine lf_if_ne h (fun h => ?_) (fun h => ?_)
    · refine lf_blk B_Lw_lawmain_2456 ?_
      refine lf_goto ?_
      cases h
      exact mj_w_weak (ls := [.ref mj_SC, .ref 0, .ref 389, .ref 404, .int (nI i), mj_U, mj_U]) (lf_rl (lf_rl (lf_rl (lf_rl (lf_rl (lf_ri (lf_ri (lf_r0)))))))) (hk _ _ _ (by omega) (by omega))
    · refine lf_aload rfl ?_
      refine lf_iconst lf_c0 ?_
      refine lf_lald h lf_a404 ?_
      intro k6 h
      refine lf_iload rfl ?_
      refine lf_i2l ?_
      refine lf_lcmp ?_
      refine lf_if_eq h (fun h => ?_) (fun h => ?_)
      · refine lf_blk B_Lw_lawmain_2456 ?_
        refine lf_goto ?_
        cases h
        exact mj_w_weak (ls := [.ref mj_SC, .ref 0, .ref 389, .ref 404, .int (nI i), mj_U, mj_U]) (lf_rl (lf_rl (lf_rl (lf_rl (lf_rl (lf_ri (lf_ri (lf_r0)))))))) (hk _ _ _ (by omega) (by omega))
      · refine lf_iconst lf_c0 ?_
        cases h
  · refine lf_iconst lf_c0 ?_
    cases h
theorem s_case_38 {sc : Nat × (Nat → Int32)} {d i : Nat} {Q : mj_Q} {s p : lf_S} {cl : Bool} {rc rs : Nat} (hd : 300 ≤ d) (hi : i + 6 ≤ sc.1) (hsc : sc.1 ≤ 3072) (hrc : 1 ≤ rc) (hrs : 6 ≤ rs) (h : f_case_38 (sc.2 (i + 1)) s = some p) (hk : ∀ cl' rc' rs', rc - 1 ≤ rc' → rs - 6 ≤ rs' → lf_wp sc d j_Lw_lawmain Q 3141 [.ref mj_SC, .ref 0, .ref 389, .ref 404, .int (nI i), mj_U, mj_U] [] (lf_hp p) cl' rc' rs') : lf_wp sc d j_Lw_lawmain Q 2459 [.ref mj_SC, .ref 0, .ref 389, .ref 404, .int (nI i), mj_U, mj_U] [] (lf_hp s) cl rc rs := by
  unfold f_case_38 at h
  refine lf_blk B_Lw_lawmain_2459 ?_
  refine lf_aload rfl ?_
  refine lf_aload rfl ?_
  refine lf_iload rfl ?_
  refine lf_iconst lf_c1 ?_
  refine lf_iadd ?_
  refine lf_scr (k := 1) hi hsc (by decide) rfl ?_
  refine lf_aload rfl ?_
  refine lf_callSo (as := [.ref 0, .int (sc.2 (i + 1)), .ref 404]) (rest := []) h rfl rfl (Nat.le_trans (by decide) hd) rfl rfl hrc hrs (fun p1 h9 => s_Lw_most h9) ?_
  intro p1 p1c h
  refine lf_istore (L := fun y2 => [.ref mj_SC, .ref 0, .ref 389, .ref 404, .int (nI i), .int y2, mj_U]) h rfl rfl (fun _ => rfl) ?_
  intro y2 h
  refine lf_aload rfl ?_
  refine lf_aload rfl ?_
  refine lf_iload rfl ?_
  refine lf_iconst lf_c1 ?_
  refine lf_iadd ?_
  refine lf_scr (k := 1) hi hsc (by decide) rfl ?_
  refine lf_callVWi (as := [.int (sc.2 (i + 1))]) (rest := []) h rfl rfl lf_a389 rfl (Nat.le_trans (by decide) hd) rfl rfl (fun p3 h9 => s_Mod_most h9) ?_
  intro p3 h
  refine lf_istore (L := fun y4 => [.ref mj_SC, .ref 0, .ref 389, .ref 404, .int (nI i), .int y2, .int y4]) h rfl rfl (fun _ => rfl) ?_
  intro y4 h
  refine lf_aload rfl ?_
  refine lf_callVRi (as := []) (rest := []) h rfl rfl lf_a389 rfl (Nat.le_trans (by decide) hd) rfl rfl (fun p5 h9 => s_Mod_thrown h9) ?_
  intro p5 h
  refine lf_iload rfl ?_
  refine lf_icmp_eq h (fun h => ?_) (fun h => ?_)
  · refine lf_blk B_Lw_lawmain_2495 ?_
    refine lf_iload rfl ?_
    refine lf_if_ne h (fun h => ?_) (fun h => ?_)
    · refine lf_blk B_Lw_lawmain_2512 ?_
      refine lf_goto ?_
      cases h
      exact mj_w_weak (ls := [.ref mj_SC, .ref 0, .ref 389, .ref 404, .int (nI i), mj_U, mj_U]) (lf_rl (lf_rl (lf_rl (lf_rl (lf_rl (lf_ri (lf_ri (lf_r0)))))))) (hk _ _ _ (by omega) (by omega))
    · refine lf_aload rfl ?_
      refine lf_iconst lf_c0 ?_
      refine lf_lald h lf_a404 ?_
      intro k6 h
      refine lf_iload rfl ?_
      refine lf_i2l ?_
      refine lf_lcmp ?_
      refine lf_if_eq h (fun h => ?_) (fun h => ?_)
      · refine lf_blk B_Lw_lawmain_2512 ?_
        refine lf_goto ?_
        cases h
        exact mj_w_weak (ls := [.ref mj_SC, .ref 0, .ref 389, .ref 404, .int (nI i), mj_U, mj_U]) (lf_rl (lf_rl (lf_rl (lf_rl (lf_rl (lf_ri (lf_ri (lf_r0)))))))) (hk _ _ _ (by omega) (by omega))
      · refine lf_iconst lf_c0 ?_
        cases h
  · refine lf_iconst lf_c0 ?_
    cases h
theorem s_case_39 {sc : Nat × (Nat → Int32)} {d i : Nat} {Q : mj_Q} {s p : lf_S} {cl : Bool} {rc rs : Nat} (hd : 300 ≤ d) (hi : i + 6 ≤ sc.1) (hsc : sc.1 ≤ 3072) (hrc : 1 ≤ rc) (hrs : 6 ≤ rs) (h : f_case_39 (sc.2 (i + 1)) s = some p) (hk : ∀ cl' rc' rs', rc - 1 ≤ rc' → rs - 6 ≤ rs' → lf_wp sc d j_Lw_lawmain Q 3141 [.ref mj_SC, .ref 0, .ref 389, .ref 404, .int (nI i), mj_U, mj_U] [] (lf_hp p) cl' rc' rs') : lf_wp sc d j_Lw_lawmain Q 2515 [.ref mj_SC, .ref 0, .ref 389, .ref 404, .int (nI i), mj_U, mj_U] [] (lf_hp s) cl rc rs := by
  unfold f_case_39 at h
  refine lf_blk B_Lw_lawmain_2515 ?_
  refine lf_aload rfl ?_
  refine lf_aload rfl ?_
  refine lf_iload rfl ?_
  refine lf_iconst lf_c1 ?_
  refine lf_iadd ?_
  refine lf_scr (k := 1) hi hsc (by decide) rfl ?_
  refine lf_if_eq h (fun h => ?_) (fun h => ?_)
  · refine lf_blk B_Lw_lawmain_2529 ?_
    refine lf_iconst lf_c0 ?_
    refine lf_end ?_
    refine lf_blk B_Lw_lawmain_2530 ?_
    refine lf_callVRi (as := [.int (0 : Int32)]) (rest := []) h rfl rfl lf_a0 rfl (Nat.le_trans (by decide) hd) rfl rfl (fun p1 h9 => s_Main_open h9) ?_
    intro p1 h
    refine lf_aload rfl ?_
    refine lf_aload rfl ?_
    refine lf_iload rfl ?_
    refine lf_iconst lf_c1 ?_
    refine lf_iadd ?_
    refine lf_scr (k := 1) hi hsc (by decide) rfl ?_
    refine lf_if_eq h (fun h => ?_) (fun h => ?_)
    · refine lf_blk B_Lw_lawmain_2547 ?_
      refine lf_iconst lf_c0 ?_
      refine lf_end ?_
      refine lf_blk B_Lw_lawmain_2548 ?_
      refine lf_callVWi (as := [.int (0 : Int32)]) (rest := [.int p1]) h rfl rfl lf_a389 rfl (Nat.le_trans (by decide) hd) rfl rfl (fun p2 h9 => s_Mod_open h9) ?_
      intro p2 h
      refine lf_icmp_eq h (fun h => ?_) (fun h => ?_)
      · cases h
        exact mj_w_weak (ls := [.ref mj_SC, .ref 0, .ref 389, .ref 404, .int (nI i), mj_U, mj_U]) (lf_rl (lf_rl (lf_rl (lf_rl (lf_rl (lf_rl (lf_rl (lf_r0)))))))) (hk _ _ _ (by omega) (by omega))
      · refine lf_iconst lf_c0 ?_
        cases h
    · refine lf_iconst lf_c1 ?_
      refine lf_goto ?_
      refine lf_blk B_Lw_lawmain_2548 ?_
      refine lf_callVWi (as := [.int (1 : Int32)]) (rest := [.int p1]) h rfl rfl lf_a389 rfl (Nat.le_trans (by decide) hd) rfl rfl (fun p3 h9 => s_Mod_open h9) ?_
      intro p3 h
      refine lf_icmp_eq h (fun h => ?_) (fun h => ?_)
      · cases h
        exact mj_w_weak (ls := [.ref mj_SC, .ref 0, .ref 389, .ref 404, .int (nI i), mj_U, mj_U]) (lf_rl (lf_rl (lf_rl (lf_rl (lf_rl (lf_rl (lf_rl (lf_r0)))))))) (hk _ _ _ (by omega) (by omega))
      · refine lf_iconst lf_c0 ?_
        cases h
  · refine lf_iconst lf_c1 ?_
    refine lf_goto ?_
    refine lf_blk B_Lw_lawmain_2530 ?_
    refine lf_callVRi (as := [.int (1 : Int32)]) (rest := []) h rfl rfl lf_a0 rfl (Nat.le_trans (by decide) hd) rfl rfl (fun p4 h9 => s_Main_open h9) ?_
    intro p4 h
    refine lf_aload rfl ?_
    refine lf_aload rfl ?_
    refine lf_iload rfl ?_
    refine lf_iconst lf_c1 ?_
    refine lf_iadd ?_
    refine lf_scr (k := 1) hi hsc (by decide) rfl ?_
    refine lf_if_eq h (fun h => ?_) (fun h => ?_)
    · refine lf_blk B_Lw_lawmain_2547 ?_
      refine lf_iconst lf_c0 ?_
      refine lf_end ?_
      refine lf_blk B_Lw_lawmain_2548 ?_
      refine lf_callVWi (as := [.int (0 : Int32)]) (rest := [.int p4]) h rfl rfl lf_a389 rfl (Nat.le_trans (by decide) hd) rfl rfl (fun p5 h9 => s_Mod_open h9) ?_
      intro p5 h
      refine lf_icmp_eq h (fun h => ?_) (fun h => ?_)
      · cases h
        exact mj_w_weak (ls := [.ref mj_SC, .ref 0, .ref 389, .ref 404, .int (nI i), mj_U, mj_U]) (lf_rl (lf_rl (lf_rl (lf_rl (lf_rl (lf_rl (lf_rl (lf_r0)))))))) (hk _ _ _ (by omega) (by omega))
      · refine lf_iconst lf_c0 ?_
        cases h
    · refine lf_iconst lf_c1 ?_
      refine lf_goto ?_
      refine lf_blk B_Lw_lawmain_2548 ?_
      refine lf_callVWi (as := [.int (1 : Int32)]) (rest := [.int p4]) h rfl rfl lf_a389 rfl (Nat.le_trans (by decide) hd) rfl rfl (fun p6 h9 => s_Mod_open h9) ?_
      intro p6 h
      refine lf_icmp_eq h (fun h => ?_) (fun h => ?_)
      · cases h
        exact mj_w_weak (ls := [.ref mj_SC, .ref 0, .ref 389, .ref 404, .int (nI i), mj_U, mj_U]) (lf_rl (lf_rl (lf_rl (lf_rl (lf_rl (lf_rl (lf_rl (lf_r0)))))))) (hk _ _ _ (by omega) (by omega))
      · refine lf_iconst lf_c0 ?_
        cases h
theorem s_case_40 {sc : Nat × (Nat → Int32)} {d i : Nat} {Q : mj_Q} {s p : lf_S} {cl : Bool} {rc rs : Nat} (hd : 300 ≤ d) (hi : i + 6 ≤ sc.1) (hsc : sc.1 ≤ 3072) (hrc : 1 ≤ rc) (hrs : 6 ≤ rs) (h : f_case_40 s = some p) (hk : ∀ cl' rc' rs', rc - 1 ≤ rc' → rs - 6 ≤ rs' → lf_wp sc d j_Lw_lawmain Q 3141 [.ref mj_SC, .ref 0, .ref 389, .ref 404, .int (nI i), mj_U, mj_U] [] (lf_hp p) cl' rc' rs') : lf_wp sc d j_Lw_lawmain Q 2556 [.ref mj_SC, .ref 0, .ref 389, .ref 404, .int (nI i), mj_U, mj_U] [] (lf_hp s) cl rc rs := by
  unfold f_case_40 at h
  refine lf_blk B_Lw_lawmain_2556 ?_
  refine lf_aload rfl ?_
  refine lf_callVRi (as := []) (rest := []) h rfl rfl lf_a0 rfl (Nat.le_trans (by decide) hd) rfl rfl (fun p1 h9 => s_Main_twins h9) ?_
  intro p1 h
  refine lf_aload rfl ?_
  refine lf_callVWi (as := []) (rest := [.int p1]) h rfl rfl lf_a389 rfl (Nat.le_trans (by decide) hd) rfl rfl (fun p2 h9 => s_Mod_twins h9) ?_
  intro p2 h
  refine lf_icmp_eq h (fun h => ?_) (fun h => ?_)
  · cases h
    exact mj_w_weak (ls := [.ref mj_SC, .ref 0, .ref 389, .ref 404, .int (nI i), mj_U, mj_U]) (lf_rl (lf_rl (lf_rl (lf_rl (lf_rl (lf_rl (lf_rl (lf_r0)))))))) (hk _ _ _ (by omega) (by omega))
  · refine lf_iconst lf_c0 ?_
    cases h
theorem s_case_41 {sc : Nat × (Nat → Int32)} {d i : Nat} {Q : mj_Q} {s p : lf_S} {cl : Bool} {rc rs : Nat} (hd : 300 ≤ d) (hi : i + 6 ≤ sc.1) (hsc : sc.1 ≤ 3072) (hrc : 1 ≤ rc) (hrs : 6 ≤ rs) (h : f_case_41 (sc.2 (i + 1)) s = some p) (hk : ∀ cl' rc' rs', rc - 1 ≤ rc' → rs - 6 ≤ rs' → lf_wp sc d j_Lw_lawmain Q 3141 [.ref mj_SC, .ref 0, .ref 389, .ref 404, .int (nI i), mj_U, mj_U] [] (lf_hp p) cl' rc' rs') : lf_wp sc d j_Lw_lawmain Q 2569 [.ref mj_SC, .ref 0, .ref 389, .ref 404, .int (nI i), mj_U, mj_U] [] (lf_hp s) cl rc rs := by
  unfold f_case_41 at h
  refine lf_blk B_Lw_lawmain_2569 ?_
  refine lf_aload rfl ?_
  refine lf_aload rfl ?_
  refine lf_iload rfl ?_
  refine lf_iconst lf_c1 ?_
  refine lf_iadd ?_
  refine lf_scr (k := 1) hi hsc (by decide) rfl ?_
  refine lf_aload rfl ?_
  refine lf_callSo (as := [.ref 0, .int (sc.2 (i + 1)), .ref 404]) (rest := []) h rfl rfl (Nat.le_trans (by decide) hd) rfl rfl hrc hrs (fun p1 h9 => s_Lw_sort h9) ?_
  intro p1 p1c h
  refine lf_istore (L := fun y2 => [.ref mj_SC, .ref 0, .ref 389, .ref 404, .int (nI i), .int y2, mj_U]) h rfl rfl (fun _ => rfl) ?_
  intro y2 h
  refine lf_aload rfl ?_
  refine lf_aload rfl ?_
  refine lf_iload rfl ?_
  refine lf_iconst lf_c1 ?_
  refine lf_iadd ?_
  refine lf_scr (k := 1) hi hsc (by decide) rfl ?_
  refine lf_callVWi (as := [.int (sc.2 (i + 1))]) (rest := []) h rfl rfl lf_a389 rfl (Nat.le_trans (by decide) hd) rfl rfl (fun p3 h9 => s_Mod_sort h9) ?_
  intro p3 h
  refine lf_istore (L := fun y4 => [.ref mj_SC, .ref 0, .ref 389, .ref 404, .int (nI i), .int y2, .int y4]) h rfl rfl (fun _ => rfl) ?_
  intro y4 h
  refine lf_aload rfl ?_
  refine lf_callVRi (as := []) (rest := []) h rfl rfl lf_a389 rfl (Nat.le_trans (by decide) hd) rfl rfl (fun p5 h9 => s_Mod_thrown h9) ?_
  intro p5 h
  refine lf_iload rfl ?_
  refine lf_icmp_eq h (fun h => ?_) (fun h => ?_)
  · refine lf_blk B_Lw_lawmain_2605 ?_
    refine lf_iload rfl ?_
    refine lf_if_ne h (fun h => ?_) (fun h => ?_)
    · refine lf_blk B_Lw_lawmain_2622 ?_
      refine lf_goto ?_
      cases h
      exact mj_w_weak (ls := [.ref mj_SC, .ref 0, .ref 389, .ref 404, .int (nI i), mj_U, mj_U]) (lf_rl (lf_rl (lf_rl (lf_rl (lf_rl (lf_ri (lf_ri (lf_r0)))))))) (hk _ _ _ (by omega) (by omega))
    · refine lf_aload rfl ?_
      refine lf_iconst lf_c0 ?_
      refine lf_lald h lf_a404 ?_
      intro k6 h
      refine lf_iload rfl ?_
      refine lf_i2l ?_
      refine lf_lcmp ?_
      refine lf_if_eq h (fun h => ?_) (fun h => ?_)
      · refine lf_blk B_Lw_lawmain_2622 ?_
        refine lf_goto ?_
        cases h
        exact mj_w_weak (ls := [.ref mj_SC, .ref 0, .ref 389, .ref 404, .int (nI i), mj_U, mj_U]) (lf_rl (lf_rl (lf_rl (lf_rl (lf_rl (lf_ri (lf_ri (lf_r0)))))))) (hk _ _ _ (by omega) (by omega))
      · refine lf_iconst lf_c0 ?_
        cases h
  · refine lf_iconst lf_c0 ?_
    cases h
theorem s_case_42 {sc : Nat × (Nat → Int32)} {d i : Nat} {Q : mj_Q} {s p : lf_S} {cl : Bool} {rc rs : Nat} (hd : 300 ≤ d) (hi : i + 6 ≤ sc.1) (hsc : sc.1 ≤ 3072) (hrc : 1 ≤ rc) (hrs : 6 ≤ rs) (h : f_case_42 s = some p) (hk : ∀ cl' rc' rs', rc - 1 ≤ rc' → rs - 6 ≤ rs' → lf_wp sc d j_Lw_lawmain Q 3141 [.ref mj_SC, .ref 0, .ref 389, .ref 404, .int (nI i), mj_U, mj_U] [] (lf_hp p) cl' rc' rs') : lf_wp sc d j_Lw_lawmain Q 2625 [.ref mj_SC, .ref 0, .ref 389, .ref 404, .int (nI i), mj_U, mj_U] [] (lf_hp s) cl rc rs := by
  unfold f_case_42 at h
  refine lf_blk B_Lw_lawmain_2625 ?_
  refine lf_aload rfl ?_
  refine lf_callVRi (as := []) (rest := []) h rfl rfl lf_a0 rfl (Nat.le_trans (by decide) hd) rfl rfl (fun p1 h9 => s_Main_lengths h9) ?_
  intro p1 h
  refine lf_aload rfl ?_
  refine lf_callVWi (as := []) (rest := [.int p1]) h rfl rfl lf_a389 rfl (Nat.le_trans (by decide) hd) rfl rfl (fun p2 h9 => s_Mod_lengths h9) ?_
  intro p2 h
  refine lf_icmp_eq h (fun h => ?_) (fun h => ?_)
  · cases h
    exact mj_w_weak (ls := [.ref mj_SC, .ref 0, .ref 389, .ref 404, .int (nI i), mj_U, mj_U]) (lf_rl (lf_rl (lf_rl (lf_rl (lf_rl (lf_rl (lf_rl (lf_r0)))))))) (hk _ _ _ (by omega) (by omega))
  · refine lf_iconst lf_c0 ?_
    cases h
theorem s_case_43 {sc : Nat × (Nat → Int32)} {d i : Nat} {Q : mj_Q} {s p : lf_S} {cl : Bool} {rc rs : Nat} (hd : 300 ≤ d) (hi : i + 6 ≤ sc.1) (hsc : sc.1 ≤ 3072) (hrc : 1 ≤ rc) (hrs : 6 ≤ rs) (h : f_case_43 (sc.2 (i + 1)) (sc.2 (i + 2)) (sc.2 (i + 3)) s = some p) (hk : ∀ cl' rc' rs', rc - 1 ≤ rc' → rs - 6 ≤ rs' → lf_wp sc d j_Lw_lawmain Q 3141 [.ref mj_SC, .ref 0, .ref 389, .ref 404, .int (nI i), mj_U, mj_U] [] (lf_hp p) cl' rc' rs') : lf_wp sc d j_Lw_lawmain Q 2638 [.ref mj_SC, .ref 0, .ref 389, .ref 404, .int (nI i), mj_U, mj_U] [] (lf_hp s) cl rc rs := by
  unfold f_case_43 at h
  refine lf_blk B_Lw_lawmain_2638 ?_
  refine lf_aload rfl ?_
  refine lf_aload rfl ?_
  refine lf_iload rfl ?_
  refine lf_iconst lf_c1 ?_
  refine lf_iadd ?_
  refine lf_scr (k := 1) hi hsc (by decide) rfl ?_
  refine lf_aload rfl ?_
  refine lf_iload rfl ?_
  refine lf_iconst lf_c2 ?_
  refine lf_iadd ?_
  refine lf_scr (k := 2) hi hsc (by decide) rfl ?_
  refine lf_aload rfl ?_
  refine lf_iload rfl ?_
  refine lf_iconst lf_c3 ?_
  refine lf_iadd ?_
  refine lf_scr (k := 3) hi hsc (by decide) rfl ?_
  refine lf_if_eq h (fun h => ?_) (fun h => ?_)
  · refine lf_blk B_Lw_lawmain_2664 ?_
    refine lf_iconst lf_c0 ?_
    refine lf_end ?_
    refine lf_blk B_Lw_lawmain_2665 ?_
    refine lf_aload rfl ?_
    refine lf_callSo (as := [.ref 0, .int (sc.2 (i + 1)), .int (sc.2 (i + 2)), .int (0 : Int32), .ref 404]) (rest := []) h rfl rfl (Nat.le_trans (by decide) hd) rfl rfl hrc hrs (fun p1 h9 => s_Lw_ahead h9) ?_
    intro p1 p1c h
    refine lf_istore (L := fun y2 => [.ref mj_SC, .ref 0, .ref 389, .ref 404, .int (nI i), .int y2, mj_U]) h rfl rfl (fun _ => rfl) ?_
    intro y2 h
    refine lf_aload rfl ?_
    refine lf_aload rfl ?_
    refine lf_iload rfl ?_
    refine lf_iconst lf_c1 ?_
    refine lf_iadd ?_
    refine lf_scr (k := 1) hi hsc (by decide) rfl ?_
    refine lf_aload rfl ?_
    refine lf_iload rfl ?_
    refine lf_iconst lf_c2 ?_
    refine lf_iadd ?_
    refine lf_scr (k := 2) hi hsc (by decide) rfl ?_
    refine lf_aload rfl ?_
    refine lf_iload rfl ?_
    refine lf_iconst lf_c3 ?_
    refine lf_iadd ?_
    refine lf_scr (k := 3) hi hsc (by decide) rfl ?_
    refine lf_if_eq h (fun h => ?_) (fun h => ?_)
    · refine lf_blk B_Lw_lawmain_2697 ?_
      refine lf_iconst lf_c0 ?_
      refine lf_end ?_
      refine lf_blk B_Lw_lawmain_2698 ?_
      refine lf_callVWi (as := [.int (sc.2 (i + 1)), .int (sc.2 (i + 2)), .int (0 : Int32)]) (rest := []) h rfl rfl lf_a389 rfl (Nat.le_trans (by decide) hd) rfl rfl (fun p3 h9 => s_Mod_ahead h9) ?_
      intro p3 h
      refine lf_istore (L := fun y4 => [.ref mj_SC, .ref 0, .ref 389, .ref 404, .int (nI i), .int y2, .int y4]) h rfl rfl (fun _ => rfl) ?_
      intro y4 h
      refine lf_aload rfl ?_
      refine lf_callVRi (as := []) (rest := []) h rfl rfl lf_a389 rfl (Nat.le_trans (by decide) hd) rfl rfl (fun p5 h9 => s_Mod_thrown h9) ?_
      intro p5 h
      refine lf_iload rfl ?_
      refine lf_icmp_eq h (fun h => ?_) (fun h => ?_)
      · refine lf_blk B_Lw_lawmain_2714 ?_
        refine lf_iload rfl ?_
        refine lf_if_ne h (fun h => ?_) (fun h => ?_)
        · refine lf_blk B_Lw_lawmain_2731 ?_
          refine lf_goto ?_
          cases h
          exact mj_w_weak (ls := [.ref mj_SC, .ref 0, .ref 389, .ref 404, .int (nI i), mj_U, mj_U]) (lf_rl (lf_rl (lf_rl (lf_rl (lf_rl (lf_ri (lf_ri (lf_r0)))))))) (hk _ _ _ (by omega) (by omega))
        · refine lf_aload rfl ?_
          refine lf_iconst lf_c0 ?_
          refine lf_lald h lf_a404 ?_
          intro k6 h
          refine lf_iload rfl ?_
          refine lf_i2l ?_
          refine lf_lcmp ?_
          refine lf_if_eq h (fun h => ?_) (fun h => ?_)
          · refine lf_blk B_Lw_lawmain_2731 ?_
            refine lf_goto ?_
            cases h
            exact mj_w_weak (ls := [.ref mj_SC, .ref 0, .ref 389, .ref 404, .int (nI i), mj_U, mj_U]) (lf_rl (lf_rl (lf_rl (lf_rl (lf_rl (lf_ri (lf_ri (lf_r0)))))))) (hk _ _ _ (by omega) (by omega))
          · refine lf_iconst lf_c0 ?_
            cases h
      · refine lf_iconst lf_c0 ?_
        cases h
    · refine lf_iconst lf_c1 ?_
      refine lf_goto ?_
      refine lf_blk B_Lw_lawmain_2698 ?_
      refine lf_callVWi (as := [.int (sc.2 (i + 1)), .int (sc.2 (i + 2)), .int (1 : Int32)]) (rest := []) h rfl rfl lf_a389 rfl (Nat.le_trans (by decide) hd) rfl rfl (fun p7 h9 => s_Mod_ahead h9) ?_
      intro p7 h
      refine lf_istore (L := fun y8 => [.ref mj_SC, .ref 0, .ref 389, .ref 404, .int (nI i), .int y2, .int y8]) h rfl rfl (fun _ => rfl) ?_
      intro y8 h
      refine lf_aload rfl ?_
      refine lf_callVRi (as := []) (rest := []) h rfl rfl lf_a389 rfl (Nat.le_trans (by decide) hd) rfl rfl (fun p9 h9 => s_Mod_thrown h9) ?_
      intro p9 h
      refine lf_iload rfl ?_
      refine lf_icmp_eq h (fun h => ?_) (fun h => ?_)
      · refine lf_blk B_Lw_lawmain_2714 ?_
        refine lf_iload rfl ?_
        refine lf_if_ne h (fun h => ?_) (fun h => ?_)
        · refine lf_blk B_Lw_lawmain_2731 ?_
          refine lf_goto ?_
          cases h
          exact mj_w_weak (ls := [.ref mj_SC, .ref 0, .ref 389, .ref 404, .int (nI i), mj_U, mj_U]) (lf_rl (lf_rl (lf_rl (lf_rl (lf_rl (lf_ri (lf_ri (lf_r0)))))))) (hk _ _ _ (by omega) (by omega))
        · refine lf_aload rfl ?_
          refine lf_iconst lf_c0 ?_
          refine lf_lald h lf_a404 ?_
          intro k10 h
          refine lf_iload rfl ?_
          refine lf_i2l ?_
          refine lf_lcmp ?_
          refine lf_if_eq h (fun h => ?_) (fun h => ?_)
          · refine lf_blk B_Lw_lawmain_2731 ?_
            refine lf_goto ?_
            cases h
            exact mj_w_weak (ls := [.ref mj_SC, .ref 0, .ref 389, .ref 404, .int (nI i), mj_U, mj_U]) (lf_rl (lf_rl (lf_rl (lf_rl (lf_rl (lf_ri (lf_ri (lf_r0)))))))) (hk _ _ _ (by omega) (by omega))
          · refine lf_iconst lf_c0 ?_
            cases h
      · refine lf_iconst lf_c0 ?_
        cases h
  · refine lf_iconst lf_c1 ?_
    refine lf_goto ?_
    refine lf_blk B_Lw_lawmain_2665 ?_
    refine lf_aload rfl ?_
    refine lf_callSo (as := [.ref 0, .int (sc.2 (i + 1)), .int (sc.2 (i + 2)), .int (1 : Int32), .ref 404]) (rest := []) h rfl rfl (Nat.le_trans (by decide) hd) rfl rfl hrc hrs (fun p11 h9 => s_Lw_ahead h9) ?_
    intro p11 p11c h
    refine lf_istore (L := fun y12 => [.ref mj_SC, .ref 0, .ref 389, .ref 404, .int (nI i), .int y12, mj_U]) h rfl rfl (fun _ => rfl) ?_
    intro y12 h
    refine lf_aload rfl ?_
    refine lf_aload rfl ?_
    refine lf_iload rfl ?_
    refine lf_iconst lf_c1 ?_
    refine lf_iadd ?_
    refine lf_scr (k := 1) hi hsc (by decide) rfl ?_
    refine lf_aload rfl ?_
    refine lf_iload rfl ?_
    refine lf_iconst lf_c2 ?_
    refine lf_iadd ?_
    refine lf_scr (k := 2) hi hsc (by decide) rfl ?_
    refine lf_aload rfl ?_
    refine lf_iload rfl ?_
    refine lf_iconst lf_c3 ?_
    refine lf_iadd ?_
    refine lf_scr (k := 3) hi hsc (by decide) rfl ?_
    refine lf_if_eq h (fun h => ?_) (fun h => ?_)
    · refine lf_blk B_Lw_lawmain_2697 ?_
      refine lf_iconst lf_c0 ?_
      refine lf_end ?_
      refine lf_blk B_Lw_lawmain_2698 ?_
      refine lf_callVWi (as := [.int (sc.2 (i + 1)), .int (sc.2 (i + 2)), .int (0 : Int32)]) (rest := []) h rfl rfl lf_a389 rfl (Nat.le_trans (by decide) hd) rfl rfl (fun p13 h9 => s_Mod_ahead h9) ?_
      intro p13 h
      refine lf_istore (L := fun y14 => [.ref mj_SC, .ref 0, .ref 389, .ref 404, .int (nI i), .int y12, .int y14]) h rfl rfl (fun _ => rfl) ?_
      intro y14 h
      refine lf_aload rfl ?_
      refine lf_callVRi (as := []) (rest := []) h rfl rfl lf_a389 rfl (Nat.le_trans (by decide) hd) rfl rfl (fun p15 h9 => s_Mod_thrown h9) ?_
      intro p15 h
      refine lf_iload rfl ?_
      refine lf_icmp_eq h (fun h => ?_) (fun h => ?_)
      · refine lf_blk B_Lw_lawmain_2714 ?_
        refine lf_iload rfl ?_
        refine lf_if_ne h (fun h => ?_) (fun h => ?_)
        · refine lf_blk B_Lw_lawmain_2731 ?_
          refine lf_goto ?_
          cases h
          exact mj_w_weak (ls := [.ref mj_SC, .ref 0, .ref 389, .ref 404, .int (nI i), mj_U, mj_U]) (lf_rl (lf_rl (lf_rl (lf_rl (lf_rl (lf_ri (lf_ri (lf_r0)))))))) (hk _ _ _ (by omega) (by omega))
        · refine lf_aload rfl ?_
          refine lf_iconst lf_c0 ?_
          refine lf_lald h lf_a404 ?_
          intro k16 h
          refine lf_iload rfl ?_
          refine lf_i2l ?_
          refine lf_lcmp ?_
          refine lf_if_eq h (fun h => ?_) (fun h => ?_)
          · refine lf_blk B_Lw_lawmain_2731 ?_
            refine lf_goto ?_
            cases h
            exact mj_w_weak (ls := [.ref mj_SC, .ref 0, .ref 389, .ref 404, .int (nI i), mj_U, mj_U]) (lf_rl (lf_rl (lf_rl (lf_rl (lf_rl (lf_ri (lf_ri (lf_r0)))))))) (hk _ _ _ (by omega) (by omega))
          · refine lf_iconst lf_c0 ?_
            cases h
      · refine lf_iconst lf_c0 ?_
        cases h
    · refine lf_iconst lf_c1 ?_
      refine lf_goto ?_
      refine lf_blk B_Lw_lawmain_2698 ?_
      refine lf_callVWi (as := [.int (sc.2 (i + 1)), .int (sc.2 (i + 2)), .int (1 : Int32)]) (rest := []) h rfl rfl lf_a389 rfl (Nat.le_trans (by decide) hd) rfl rfl (fun p17 h9 => s_Mod_ahead h9) ?_
      intro p17 h
      refine lf_istore (L := fun y18 => [.ref mj_SC, .ref 0, .ref 389, .ref 404, .int (nI i), .int y12, .int y18]) h rfl rfl (fun _ => rfl) ?_
      intro y18 h
      refine lf_aload rfl ?_
      refine lf_callVRi (as := []) (rest := []) h rfl rfl lf_a389 rfl (Nat.le_trans (by decide) hd) rfl rfl (fun p19 h9 => s_Mod_thrown h9) ?_
      intro p19 h
      refine lf_iload rfl ?_
      refine lf_icmp_eq h (fun h => ?_) (fun h => ?_)
      · refine lf_blk B_Lw_lawmain_2714 ?_
        refine lf_iload rfl ?_
        refine lf_if_ne h (fun h => ?_) (fun h => ?_)
        · refine lf_blk B_Lw_lawmain_2731 ?_
          refine lf_goto ?_
          cases h
          exact mj_w_weak (ls := [.ref mj_SC, .ref 0, .ref 389, .ref 404, .int (nI i), mj_U, mj_U]) (lf_rl (lf_rl (lf_rl (lf_rl (lf_rl (lf_ri (lf_ri (lf_r0)))))))) (hk _ _ _ (by omega) (by omega))
        · refine lf_aload rfl ?_
          refine lf_iconst lf_c0 ?_
          refine lf_lald h lf_a404 ?_
          intro k20 h
          refine lf_iload rfl ?_
          refine lf_i2l ?_
          refine lf_lcmp ?_
          refine lf_if_eq h (fun h => ?_) (fun h => ?_)
          · refine lf_blk B_Lw_lawmain_2731 ?_
            refine lf_goto ?_
            cases h
            exact mj_w_weak (ls := [.ref mj_SC, .ref 0, .ref 389, .ref 404, .int (nI i), mj_U, mj_U]) (lf_rl (lf_rl (lf_rl (lf_rl (lf_rl (lf_ri (lf_ri (lf_r0)))))))) (hk _ _ _ (by omega) (by omega))
          · refine lf_iconst lf_c0 ?_
            cases h
      · refine lf_iconst lf_c0 ?_
        cases h
theorem s_case_44 {sc : Nat × (Nat → Int32)} {d i : Nat} {Q : mj_Q} {s p : lf_S} {cl : Bool} {rc rs : Nat} (hd : 300 ≤ d) (hi : i + 6 ≤ sc.1) (hsc : sc.1 ≤ 3072) (hrc : 1 ≤ rc) (hrs : 6 ≤ rs) (h : f_case_44 (sc.2 (i + 1)) (sc.2 (i + 2)) s = some p) (hk : ∀ cl' rc' rs', rc - 1 ≤ rc' → rs - 6 ≤ rs' → lf_wp sc d j_Lw_lawmain Q 3141 [.ref mj_SC, .ref 0, .ref 389, .ref 404, .int (nI i), mj_U, mj_U] [] (lf_hp p) cl' rc' rs') : lf_wp sc d j_Lw_lawmain Q 2734 [.ref mj_SC, .ref 0, .ref 389, .ref 404, .int (nI i), mj_U, mj_U] [] (lf_hp s) cl rc rs := by
  unfold f_case_44 at h
  refine lf_blk B_Lw_lawmain_2734 ?_
  refine lf_aload rfl ?_
  refine lf_aload rfl ?_
  refine lf_iload rfl ?_
  refine lf_iconst lf_c1 ?_
  refine lf_iadd ?_
  refine lf_scr (k := 1) hi hsc (by decide) rfl ?_
  refine lf_aload rfl ?_
  refine lf_iload rfl ?_
  refine lf_iconst lf_c2 ?_
  refine lf_iadd ?_
  refine lf_scr (k := 2) hi hsc (by decide) rfl ?_
  refine lf_if_eq h (fun h => ?_) (fun h => ?_)
  · refine lf_blk B_Lw_lawmain_2754 ?_
    refine lf_iconst lf_c0 ?_
    refine lf_end ?_
    refine lf_blk B_Lw_lawmain_2755 ?_
    refine lf_aload rfl ?_
    refine lf_callSo (as := [.ref 0, .int (sc.2 (i + 1)), .int (0 : Int32), .ref 404]) (rest := []) h rfl rfl (Nat.le_trans (by decide) hd) rfl rfl hrc hrs (fun p1 h9 => s_Lw_trial h9) ?_
    intro p1 p1c h
    refine lf_istore (L := fun y2 => [.ref mj_SC, .ref 0, .ref 389, .ref 404, .int (nI i), .int y2, mj_U]) h rfl rfl (fun _ => rfl) ?_
    intro y2 h
    refine lf_aload rfl ?_
    refine lf_aload rfl ?_
    refine lf_iload rfl ?_
    refine lf_iconst lf_c1 ?_
    refine lf_iadd ?_
    refine lf_scr (k := 1) hi hsc (by decide) rfl ?_
    refine lf_aload rfl ?_
    refine lf_iload rfl ?_
    refine lf_iconst lf_c2 ?_
    refine lf_iadd ?_
    refine lf_scr (k := 2) hi hsc (by decide) rfl ?_
    refine lf_if_eq h (fun h => ?_) (fun h => ?_)
    · refine lf_blk B_Lw_lawmain_2781 ?_
      refine lf_iconst lf_c0 ?_
      refine lf_end ?_
      refine lf_blk B_Lw_lawmain_2782 ?_
      refine lf_callVWi (as := [.int (sc.2 (i + 1)), .int (0 : Int32)]) (rest := []) h rfl rfl lf_a389 rfl (Nat.le_trans (by decide) hd) rfl rfl (fun p3 h9 => s_Mod_trial h9) ?_
      intro p3 h
      refine lf_istore (L := fun y4 => [.ref mj_SC, .ref 0, .ref 389, .ref 404, .int (nI i), .int y2, .int y4]) h rfl rfl (fun _ => rfl) ?_
      intro y4 h
      refine lf_aload rfl ?_
      refine lf_callVRi (as := []) (rest := []) h rfl rfl lf_a389 rfl (Nat.le_trans (by decide) hd) rfl rfl (fun p5 h9 => s_Mod_thrown h9) ?_
      intro p5 h
      refine lf_iload rfl ?_
      refine lf_icmp_eq h (fun h => ?_) (fun h => ?_)
      · refine lf_blk B_Lw_lawmain_2798 ?_
        refine lf_iload rfl ?_
        refine lf_if_ne h (fun h => ?_) (fun h => ?_)
        · refine lf_blk B_Lw_lawmain_2815 ?_
          refine lf_goto ?_
          cases h
          exact mj_w_weak (ls := [.ref mj_SC, .ref 0, .ref 389, .ref 404, .int (nI i), mj_U, mj_U]) (lf_rl (lf_rl (lf_rl (lf_rl (lf_rl (lf_ri (lf_ri (lf_r0)))))))) (hk _ _ _ (by omega) (by omega))
        · refine lf_aload rfl ?_
          refine lf_iconst lf_c0 ?_
          refine lf_lald h lf_a404 ?_
          intro k6 h
          refine lf_iload rfl ?_
          refine lf_i2l ?_
          refine lf_lcmp ?_
          refine lf_if_eq h (fun h => ?_) (fun h => ?_)
          · refine lf_blk B_Lw_lawmain_2815 ?_
            refine lf_goto ?_
            cases h
            exact mj_w_weak (ls := [.ref mj_SC, .ref 0, .ref 389, .ref 404, .int (nI i), mj_U, mj_U]) (lf_rl (lf_rl (lf_rl (lf_rl (lf_rl (lf_ri (lf_ri (lf_r0)))))))) (hk _ _ _ (by omega) (by omega))
          · refine lf_iconst lf_c0 ?_
            cases h
      · refine lf_iconst lf_c0 ?_
        cases h
    · refine lf_iconst lf_c1 ?_
      refine lf_goto ?_
      refine lf_blk B_Lw_lawmain_2782 ?_
      refine lf_callVWi (as := [.int (sc.2 (i + 1)), .int (1 : Int32)]) (rest := []) h rfl rfl lf_a389 rfl (Nat.le_trans (by decide) hd) rfl rfl (fun p7 h9 => s_Mod_trial h9) ?_
      intro p7 h
      refine lf_istore (L := fun y8 => [.ref mj_SC, .ref 0, .ref 389, .ref 404, .int (nI i), .int y2, .int y8]) h rfl rfl (fun _ => rfl) ?_
      intro y8 h
      refine lf_aload rfl ?_
      refine lf_callVRi (as := []) (rest := []) h rfl rfl lf_a389 rfl (Nat.le_trans (by decide) hd) rfl rfl (fun p9 h9 => s_Mod_thrown h9) ?_
      intro p9 h
      refine lf_iload rfl ?_
      refine lf_icmp_eq h (fun h => ?_) (fun h => ?_)
      · refine lf_blk B_Lw_lawmain_2798 ?_
        refine lf_iload rfl ?_
        refine lf_if_ne h (fun h => ?_) (fun h => ?_)
        · refine lf_blk B_Lw_lawmain_2815 ?_
          refine lf_goto ?_
          cases h
          exact mj_w_weak (ls := [.ref mj_SC, .ref 0, .ref 389, .ref 404, .int (nI i), mj_U, mj_U]) (lf_rl (lf_rl (lf_rl (lf_rl (lf_rl (lf_ri (lf_ri (lf_r0)))))))) (hk _ _ _ (by omega) (by omega))
        · refine lf_aload rfl ?_
          refine lf_iconst lf_c0 ?_
          refine lf_lald h lf_a404 ?_
          intro k10 h
          refine lf_iload rfl ?_
          refine lf_i2l ?_
          refine lf_lcmp ?_
          refine lf_if_eq h (fun h => ?_) (fun h => ?_)
          · refine lf_blk B_Lw_lawmain_2815 ?_
            refine lf_goto ?_
            cases h
            exact mj_w_weak (ls := [.ref mj_SC, .ref 0, .ref 389, .ref 404, .int (nI i), mj_U, mj_U]) (lf_rl (lf_rl (lf_rl (lf_rl (lf_rl (lf_ri (lf_ri (lf_r0)))))))) (hk _ _ _ (by omega) (by omega))
          · refine lf_iconst lf_c0 ?_
            cases h
      · refine lf_iconst lf_c0 ?_
        cases h
  · refine lf_iconst lf_c1 ?_
    refine lf_goto ?_
    refine lf_blk B_Lw_lawmain_2755 ?_
    refine lf_aload rfl ?_
    refine lf_callSo (as := [.ref 0, .int (sc.2 (i + 1)), .int (1 : Int32), .ref 404]) (rest := []) h rfl rfl (Nat.le_trans (by decide) hd) rfl rfl hrc hrs (fun p11 h9 => s_Lw_trial h9) ?_
    intro p11 p11c h
    refine lf_istore (L := fun y12 => [.ref mj_SC, .ref 0, .ref 389, .ref 404, .int (nI i), .int y12, mj_U]) h rfl rfl (fun _ => rfl) ?_
    intro y12 h
    refine lf_aload rfl ?_
    refine lf_aload rfl ?_
    refine lf_iload rfl ?_
    refine lf_iconst lf_c1 ?_
    refine lf_iadd ?_
    refine lf_scr (k := 1) hi hsc (by decide) rfl ?_
    refine lf_aload rfl ?_
    refine lf_iload rfl ?_
    refine lf_iconst lf_c2 ?_
    refine lf_iadd ?_
    refine lf_scr (k := 2) hi hsc (by decide) rfl ?_
    refine lf_if_eq h (fun h => ?_) (fun h => ?_)
    · refine lf_blk B_Lw_lawmain_2781 ?_
      refine lf_iconst lf_c0 ?_
      refine lf_end ?_
      refine lf_blk B_Lw_lawmain_2782 ?_
      refine lf_callVWi (as := [.int (sc.2 (i + 1)), .int (0 : Int32)]) (rest := []) h rfl rfl lf_a389 rfl (Nat.le_trans (by decide) hd) rfl rfl (fun p13 h9 => s_Mod_trial h9) ?_
      intro p13 h
      refine lf_istore (L := fun y14 => [.ref mj_SC, .ref 0, .ref 389, .ref 404, .int (nI i), .int y12, .int y14]) h rfl rfl (fun _ => rfl) ?_
      intro y14 h
      refine lf_aload rfl ?_
      refine lf_callVRi (as := []) (rest := []) h rfl rfl lf_a389 rfl (Nat.le_trans (by decide) hd) rfl rfl (fun p15 h9 => s_Mod_thrown h9) ?_
      intro p15 h
      refine lf_iload rfl ?_
      refine lf_icmp_eq h (fun h => ?_) (fun h => ?_)
      · refine lf_blk B_Lw_lawmain_2798 ?_
        refine lf_iload rfl ?_
        refine lf_if_ne h (fun h => ?_) (fun h => ?_)
        · refine lf_blk B_Lw_lawmain_2815 ?_
          refine lf_goto ?_
          cases h
          exact mj_w_weak (ls := [.ref mj_SC, .ref 0, .ref 389, .ref 404, .int (nI i), mj_U, mj_U]) (lf_rl (lf_rl (lf_rl (lf_rl (lf_rl (lf_ri (lf_ri (lf_r0)))))))) (hk _ _ _ (by omega) (by omega))
        · refine lf_aload rfl ?_
          refine lf_iconst lf_c0 ?_
          refine lf_lald h lf_a404 ?_
          intro k16 h
          refine lf_iload rfl ?_
          refine lf_i2l ?_
          refine lf_lcmp ?_
          refine lf_if_eq h (fun h => ?_) (fun h => ?_)
          · refine lf_blk B_Lw_lawmain_2815 ?_
            refine lf_goto ?_
            cases h
            exact mj_w_weak (ls := [.ref mj_SC, .ref 0, .ref 389, .ref 404, .int (nI i), mj_U, mj_U]) (lf_rl (lf_rl (lf_rl (lf_rl (lf_rl (lf_ri (lf_ri (lf_r0)))))))) (hk _ _ _ (by omega) (by omega))
          · refine lf_iconst lf_c0 ?_
            cases h
      · refine lf_iconst lf_c0 ?_
        cases h
    · refine lf_iconst lf_c1 ?_
      refine lf_goto ?_
      refine lf_blk B_Lw_lawmain_2782 ?_
      refine lf_callVWi (as := [.int (sc.2 (i + 1)), .int (1 : Int32)]) (rest := []) h rfl rfl lf_a389 rfl (Nat.le_trans (by decide) hd) rfl rfl (fun p17 h9 => s_Mod_trial h9) ?_
      intro p17 h
      refine lf_istore (L := fun y18 => [.ref mj_SC, .ref 0, .ref 389, .ref 404, .int (nI i), .int y12, .int y18]) h rfl rfl (fun _ => rfl) ?_
      intro y18 h
      refine lf_aload rfl ?_
      refine lf_callVRi (as := []) (rest := []) h rfl rfl lf_a389 rfl (Nat.le_trans (by decide) hd) rfl rfl (fun p19 h9 => s_Mod_thrown h9) ?_
      intro p19 h
      refine lf_iload rfl ?_
      refine lf_icmp_eq h (fun h => ?_) (fun h => ?_)
      · refine lf_blk B_Lw_lawmain_2798 ?_
        refine lf_iload rfl ?_
        refine lf_if_ne h (fun h => ?_) (fun h => ?_)
        · refine lf_blk B_Lw_lawmain_2815 ?_
          refine lf_goto ?_
          cases h
          exact mj_w_weak (ls := [.ref mj_SC, .ref 0, .ref 389, .ref 404, .int (nI i), mj_U, mj_U]) (lf_rl (lf_rl (lf_rl (lf_rl (lf_rl (lf_ri (lf_ri (lf_r0)))))))) (hk _ _ _ (by omega) (by omega))
        · refine lf_aload rfl ?_
          refine lf_iconst lf_c0 ?_
          refine lf_lald h lf_a404 ?_
          intro k20 h
          refine lf_iload rfl ?_
          refine lf_i2l ?_
          refine lf_lcmp ?_
          refine lf_if_eq h (fun h => ?_) (fun h => ?_)
          · refine lf_blk B_Lw_lawmain_2815 ?_
            refine lf_goto ?_
            cases h
            exact mj_w_weak (ls := [.ref mj_SC, .ref 0, .ref 389, .ref 404, .int (nI i), mj_U, mj_U]) (lf_rl (lf_rl (lf_rl (lf_rl (lf_rl (lf_ri (lf_ri (lf_r0)))))))) (hk _ _ _ (by omega) (by omega))
          · refine lf_iconst lf_c0 ?_
            cases h
      · refine lf_iconst lf_c0 ?_
        cases h
theorem s_case_45 {sc : Nat × (Nat → Int32)} {d i : Nat} {Q : mj_Q} {s p : lf_S} {cl : Bool} {rc rs : Nat} (hd : 300 ≤ d) (hi : i + 6 ≤ sc.1) (hsc : sc.1 ≤ 3072) (hrc : 1 ≤ rc) (hrs : 6 ≤ rs) (h : f_case_45 (sc.2 (i + 1)) (sc.2 (i + 2)) s = some p) (hk : ∀ cl' rc' rs', rc - 1 ≤ rc' → rs - 6 ≤ rs' → lf_wp sc d j_Lw_lawmain Q 3141 [.ref mj_SC, .ref 0, .ref 389, .ref 404, .int (nI i), mj_U, mj_U] [] (lf_hp p) cl' rc' rs') : lf_wp sc d j_Lw_lawmain Q 2818 [.ref mj_SC, .ref 0, .ref 389, .ref 404, .int (nI i), mj_U, mj_U] [] (lf_hp s) cl rc rs := by
  unfold f_case_45 at h
  refine lf_blk B_Lw_lawmain_2818 ?_
  refine lf_aload rfl ?_
  refine lf_aload rfl ?_
  refine lf_iload rfl ?_
  refine lf_iconst lf_c1 ?_
  refine lf_iadd ?_
  refine lf_scr (k := 1) hi hsc (by decide) rfl ?_
  refine lf_aload rfl ?_
  refine lf_iload rfl ?_
  refine lf_iconst lf_c2 ?_
  refine lf_iadd ?_
  refine lf_scr (k := 2) hi hsc (by decide) rfl ?_
  refine lf_if_eq h (fun h => ?_) (fun h => ?_)
  · refine lf_blk B_Lw_lawmain_2838 ?_
    refine lf_iconst lf_c0 ?_
    refine lf_end ?_
    refine lf_blk B_Lw_lawmain_2839 ?_
    refine lf_aload rfl ?_
    refine lf_callSo (as := [.ref 0, .int (sc.2 (i + 1)), .int (0 : Int32), .ref 404]) (rest := []) h rfl rfl (Nat.le_trans (by decide) hd) rfl rfl hrc hrs (fun p1 h9 => s_Lw_span h9) ?_
    intro p1 p1c h
    refine lf_istore (L := fun y2 => [.ref mj_SC, .ref 0, .ref 389, .ref 404, .int (nI i), .int y2, mj_U]) h rfl rfl (fun _ => rfl) ?_
    intro y2 h
    refine lf_aload rfl ?_
    refine lf_aload rfl ?_
    refine lf_iload rfl ?_
    refine lf_iconst lf_c1 ?_
    refine lf_iadd ?_
    refine lf_scr (k := 1) hi hsc (by decide) rfl ?_
    refine lf_aload rfl ?_
    refine lf_iload rfl ?_
    refine lf_iconst lf_c2 ?_
    refine lf_iadd ?_
    refine lf_scr (k := 2) hi hsc (by decide) rfl ?_
    refine lf_if_eq h (fun h => ?_) (fun h => ?_)
    · refine lf_blk B_Lw_lawmain_2865 ?_
      refine lf_iconst lf_c0 ?_
      refine lf_end ?_
      refine lf_blk B_Lw_lawmain_2866 ?_
      refine lf_callVWi (as := [.int (sc.2 (i + 1)), .int (0 : Int32)]) (rest := []) h rfl rfl lf_a389 rfl (Nat.le_trans (by decide) hd) rfl rfl (fun p3 h9 => s_Mod_span h9) ?_
      intro p3 h
      refine lf_istore (L := fun y4 => [.ref mj_SC, .ref 0, .ref 389, .ref 404, .int (nI i), .int y2, .int y4]) h rfl rfl (fun _ => rfl) ?_
      intro y4 h
      refine lf_aload rfl ?_
      refine lf_callVRi (as := []) (rest := []) h rfl rfl lf_a389 rfl (Nat.le_trans (by decide) hd) rfl rfl (fun p5 h9 => s_Mod_thrown h9) ?_
      intro p5 h
      refine lf_iload rfl ?_
      refine lf_icmp_eq h (fun h => ?_) (fun h => ?_)
      · refine lf_blk B_Lw_lawmain_2882 ?_
        refine lf_iload rfl ?_
        refine lf_if_ne h (fun h => ?_) (fun h => ?_)
        · refine lf_blk B_Lw_lawmain_2899 ?_
          refine lf_goto ?_
          cases h
          exact mj_w_weak (ls := [.ref mj_SC, .ref 0, .ref 389, .ref 404, .int (nI i), mj_U, mj_U]) (lf_rl (lf_rl (lf_rl (lf_rl (lf_rl (lf_ri (lf_ri (lf_r0)))))))) (hk _ _ _ (by omega) (by omega))
        · refine lf_aload rfl ?_
          refine lf_iconst lf_c0 ?_
          refine lf_lald h lf_a404 ?_
          intro k6 h
          refine lf_iload rfl ?_
          refine lf_i2l ?_
          refine lf_lcmp ?_
          refine lf_if_eq h (fun h => ?_) (fun h => ?_)
          · refine lf_blk B_Lw_lawmain_2899 ?_
            refine lf_goto ?_
            cases h
            exact mj_w_weak (ls := [.ref mj_SC, .ref 0, .ref 389, .ref 404, .int (nI i), mj_U, mj_U]) (lf_rl (lf_rl (lf_rl (lf_rl (lf_rl (lf_ri (lf_ri (lf_r0)))))))) (hk _ _ _ (by omega) (by omega))
          · refine lf_iconst lf_c0 ?_
            cases h
      · refine lf_iconst lf_c0 ?_
        cases h
    · refine lf_iconst lf_c1 ?_
      refine lf_goto ?_
      refine lf_blk B_Lw_lawmain_2866 ?_
      refine lf_callVWi (as := [.int (sc.2 (i + 1)), .int (1 : Int32)]) (rest := []) h rfl rfl lf_a389 rfl (Nat.le_trans (by decide) hd) rfl rfl (fun p7 h9 => s_Mod_span h9) ?_
      intro p7 h
      refine lf_istore (L := fun y8 => [.ref mj_SC, .ref 0, .ref 389, .ref 404, .int (nI i), .int y2, .int y8]) h rfl rfl (fun _ => rfl) ?_
      intro y8 h
      refine lf_aload rfl ?_
      refine lf_callVRi (as := []) (rest := []) h rfl rfl lf_a389 rfl (Nat.le_trans (by decide) hd) rfl rfl (fun p9 h9 => s_Mod_thrown h9) ?_
      intro p9 h
      refine lf_iload rfl ?_
      refine lf_icmp_eq h (fun h => ?_) (fun h => ?_)
      · refine lf_blk B_Lw_lawmain_2882 ?_
        refine lf_iload rfl ?_
        refine lf_if_ne h (fun h => ?_) (fun h => ?_)
        · refine lf_blk B_Lw_lawmain_2899 ?_
          refine lf_goto ?_
          cases h
          exact mj_w_weak (ls := [.ref mj_SC, .ref 0, .ref 389, .ref 404, .int (nI i), mj_U, mj_U]) (lf_rl (lf_rl (lf_rl (lf_rl (lf_rl (lf_ri (lf_ri (lf_r0)))))))) (hk _ _ _ (by omega) (by omega))
        · refine lf_aload rfl ?_
          refine lf_iconst lf_c0 ?_
          refine lf_lald h lf_a404 ?_
          intro k10 h
          refine lf_iload rfl ?_
          refine lf_i2l ?_
          refine lf_lcmp ?_
          refine lf_if_eq h (fun h => ?_) (fun h => ?_)
          · refine lf_blk B_Lw_lawmain_2899 ?_
            refine lf_goto ?_
            cases h
            exact mj_w_weak (ls := [.ref mj_SC, .ref 0, .ref 389, .ref 404, .int (nI i), mj_U, mj_U]) (lf_rl (lf_rl (lf_rl (lf_rl (lf_rl (lf_ri (lf_ri (lf_r0)))))))) (hk _ _ _ (by omega) (by omega))
          · refine lf_iconst lf_c0 ?_
            cases h
      · refine lf_iconst lf_c0 ?_
        cases h
  · refine lf_iconst lf_c1 ?_
    refine lf_goto ?_
    refine lf_blk B_Lw_lawmain_2839 ?_
    refine lf_aload rfl ?_
    refine lf_callSo (as := [.ref 0, .int (sc.2 (i + 1)), .int (1 : Int32), .ref 404]) (rest := []) h rfl rfl (Nat.le_trans (by decide) hd) rfl rfl hrc hrs (fun p11 h9 => s_Lw_span h9) ?_
    intro p11 p11c h
    refine lf_istore (L := fun y12 => [.ref mj_SC, .ref 0, .ref 389, .ref 404, .int (nI i), .int y12, mj_U]) h rfl rfl (fun _ => rfl) ?_
    intro y12 h
    refine lf_aload rfl ?_
    refine lf_aload rfl ?_
    refine lf_iload rfl ?_
    refine lf_iconst lf_c1 ?_
    refine lf_iadd ?_
    refine lf_scr (k := 1) hi hsc (by decide) rfl ?_
    refine lf_aload rfl ?_
    refine lf_iload rfl ?_
    refine lf_iconst lf_c2 ?_
    refine lf_iadd ?_
    refine lf_scr (k := 2) hi hsc (by decide) rfl ?_
    refine lf_if_eq h (fun h => ?_) (fun h => ?_)
    · refine lf_blk B_Lw_lawmain_2865 ?_
      refine lf_iconst lf_c0 ?_
      refine lf_end ?_
      refine lf_blk B_Lw_lawmain_2866 ?_
      refine lf_callVWi (as := [.int (sc.2 (i + 1)), .int (0 : Int32)]) (rest := []) h rfl rfl lf_a389 rfl (Nat.le_trans (by decide) hd) rfl rfl (fun p13 h9 => s_Mod_span h9) ?_
      intro p13 h
      refine lf_istore (L := fun y14 => [.ref mj_SC, .ref 0, .ref 389, .ref 404, .int (nI i), .int y12, .int y14]) h rfl rfl (fun _ => rfl) ?_
      intro y14 h
      refine lf_aload rfl ?_
      refine lf_callVRi (as := []) (rest := []) h rfl rfl lf_a389 rfl (Nat.le_trans (by decide) hd) rfl rfl (fun p15 h9 => s_Mod_thrown h9) ?_
      intro p15 h
      refine lf_iload rfl ?_
      refine lf_icmp_eq h (fun h => ?_) (fun h => ?_)
      · refine lf_blk B_Lw_lawmain_2882 ?_
        refine lf_iload rfl ?_
        refine lf_if_ne h (fun h => ?_) (fun h => ?_)
        · refine lf_blk B_Lw_lawmain_2899 ?_
          refine lf_goto ?_
          cases h
          exact mj_w_weak (ls := [.ref mj_SC, .ref 0, .ref 389, .ref 404, .int (nI i), mj_U, mj_U]) (lf_rl (lf_rl (lf_rl (lf_rl (lf_rl (lf_ri (lf_ri (lf_r0)))))))) (hk _ _ _ (by omega) (by omega))
        · refine lf_aload rfl ?_
          refine lf_iconst lf_c0 ?_
          refine lf_lald h lf_a404 ?_
          intro k16 h
          refine lf_iload rfl ?_
          refine lf_i2l ?_
          refine lf_lcmp ?_
          refine lf_if_eq h (fun h => ?_) (fun h => ?_)
          · refine lf_blk B_Lw_lawmain_2899 ?_
            refine lf_goto ?_
            cases h
            exact mj_w_weak (ls := [.ref mj_SC, .ref 0, .ref 389, .ref 404, .int (nI i), mj_U, mj_U]) (lf_rl (lf_rl (lf_rl (lf_rl (lf_rl (lf_ri (lf_ri (lf_r0)))))))) (hk _ _ _ (by omega) (by omega))
          · refine lf_iconst lf_c0 ?_
            cases h
      · refine lf_iconst lf_c0 ?_
        cases h
    · refine lf_iconst lf_c1 ?_
      refine lf_goto ?_
      refine lf_blk B_Lw_lawmain_2866 ?_
      refine lf_callVWi (as := [.int (sc.2 (i + 1)), .int (1 : Int32)]) (rest := []) h rfl rfl lf_a389 rfl (Nat.le_trans (by decide) hd) rfl rfl (fun p17 h9 => s_Mod_span h9) ?_
      intro p17 h
      refine lf_istore (L := fun y18 => [.ref mj_SC, .ref 0, .ref 389, .ref 404, .int (nI i), .int y12, .int y18]) h rfl rfl (fun _ => rfl) ?_
      intro y18 h
      refine lf_aload rfl ?_
      refine lf_callVRi (as := []) (rest := []) h rfl rfl lf_a389 rfl (Nat.le_trans (by decide) hd) rfl rfl (fun p19 h9 => s_Mod_thrown h9) ?_
      intro p19 h
      refine lf_iload rfl ?_
      refine lf_icmp_eq h (fun h => ?_) (fun h => ?_)
      · refine lf_blk B_Lw_lawmain_2882 ?_
        refine lf_iload rfl ?_
        refine lf_if_ne h (fun h => ?_) (fun h => ?_)
        · refine lf_blk B_Lw_lawmain_2899 ?_
          refine lf_goto ?_
          cases h
          exact mj_w_weak (ls := [.ref mj_SC, .ref 0, .ref 389, .ref 404, .int (nI i), mj_U, mj_U]) (lf_rl (lf_rl (lf_rl (lf_rl (lf_rl (lf_ri (lf_ri (lf_r0)))))))) (hk _ _ _ (by omega) (by omega))
        · refine lf_aload rfl ?_
          refine lf_iconst lf_c0 ?_
          refine lf_lald h lf_a404 ?_
          intro k20 h
          refine lf_iload rfl ?_
          refine lf_i2l ?_
          refine lf_lcmp ?_
          refine lf_if_eq h (fun h => ?_) (fun h => ?_)
          · refine lf_blk B_Lw_lawmain_2899 ?_
            refine lf_goto ?_
            cases h
            exact mj_w_weak (ls := [.ref mj_SC, .ref 0, .ref 389, .ref 404, .int (nI i), mj_U, mj_U]) (lf_rl (lf_rl (lf_rl (lf_rl (lf_rl (lf_ri (lf_ri (lf_r0)))))))) (hk _ _ _ (by omega) (by omega))
          · refine lf_iconst lf_c0 ?_
            cases h
      · refine lf_iconst lf_c0 ?_
        cases h
theorem s_case_46 {sc : Nat × (Nat → Int32)} {d i : Nat} {Q : mj_Q} {s p : lf_S} {cl : Bool} {rc rs : Nat} (hd : 300 ≤ d) (hi : i + 6 ≤ sc.1) (hsc : sc.1 ≤ 3072) (hrc : 1 ≤ rc) (hrs : 6 ≤ rs) (h : f_case_46 (sc.2 (i + 1)) (sc.2 (i + 2)) s = some p) (hk : ∀ cl' rc' rs', rc - 1 ≤ rc' → rs - 6 ≤ rs' → lf_wp sc d j_Lw_lawmain Q 3141 [.ref mj_SC, .ref 0, .ref 389, .ref 404, .int (nI i), mj_U, mj_U] [] (lf_hp p) cl' rc' rs') : lf_wp sc d j_Lw_lawmain Q 2902 [.ref mj_SC, .ref 0, .ref 389, .ref 404, .int (nI i), mj_U, mj_U] [] (lf_hp s) cl rc rs := by
  unfold f_case_46 at h
  refine lf_blk B_Lw_lawmain_2902 ?_
  refine lf_aload rfl ?_
  refine lf_aload rfl ?_
  refine lf_iload rfl ?_
  refine lf_iconst lf_c1 ?_
  refine lf_iadd ?_
  refine lf_scr (k := 1) hi hsc (by decide) rfl ?_
  refine lf_aload rfl ?_
  refine lf_iload rfl ?_
  refine lf_iconst lf_c2 ?_
  refine lf_iadd ?_
  refine lf_scr (k := 2) hi hsc (by decide) rfl ?_
  refine lf_if_eq h (fun h => ?_) (fun h => ?_)
  · refine lf_blk B_Lw_lawmain_2922 ?_
    refine lf_iconst lf_c0 ?_
    refine lf_end ?_
    refine lf_blk B_Lw_lawmain_2923 ?_
    refine lf_aload rfl ?_
    refine lf_callSo (as := [.ref 0, .int (sc.2 (i + 1)), .int (0 : Int32), .ref 404]) (rest := []) h rfl rfl (Nat.le_trans (by decide) hd) rfl rfl hrc hrs (fun p1 h9 => s_Lw_led h9) ?_
    intro p1 p1c h
    refine lf_istore (L := fun y2 => [.ref mj_SC, .ref 0, .ref 389, .ref 404, .int (nI i), .int y2, mj_U]) h rfl rfl (fun _ => rfl) ?_
    intro y2 h
    refine lf_aload rfl ?_
    refine lf_aload rfl ?_
    refine lf_iload rfl ?_
    refine lf_iconst lf_c1 ?_
    refine lf_iadd ?_
    refine lf_scr (k := 1) hi hsc (by decide) rfl ?_
    refine lf_aload rfl ?_
    refine lf_iload rfl ?_
    refine lf_iconst lf_c2 ?_
    refine lf_iadd ?_
    refine lf_scr (k := 2) hi hsc (by decide) rfl ?_
    refine lf_if_eq h (fun h => ?_) (fun h => ?_)
    · refine lf_blk B_Lw_lawmain_2949 ?_
      refine lf_iconst lf_c0 ?_
      refine lf_end ?_
      refine lf_blk B_Lw_lawmain_2950 ?_
      refine lf_callVWi (as := [.int (sc.2 (i + 1)), .int (0 : Int32)]) (rest := []) h rfl rfl lf_a389 rfl (Nat.le_trans (by decide) hd) rfl rfl (fun p3 h9 => s_Mod_led h9) ?_
      intro p3 h
      refine lf_istore (L := fun y4 => [.ref mj_SC, .ref 0, .ref 389, .ref 404, .int (nI i), .int y2, .int y4]) h rfl rfl (fun _ => rfl) ?_
      intro y4 h
      refine lf_aload rfl ?_
      refine lf_callVRi (as := []) (rest := []) h rfl rfl lf_a389 rfl (Nat.le_trans (by decide) hd) rfl rfl (fun p5 h9 => s_Mod_thrown h9) ?_
      intro p5 h
      refine lf_iload rfl ?_
      refine lf_icmp_eq h (fun h => ?_) (fun h => ?_)
      · refine lf_blk B_Lw_lawmain_2966 ?_
        refine lf_iload rfl ?_
        refine lf_if_ne h (fun h => ?_) (fun h => ?_)
        · refine lf_blk B_Lw_lawmain_2983 ?_
          refine lf_goto ?_
          cases h
          exact mj_w_weak (ls := [.ref mj_SC, .ref 0, .ref 389, .ref 404, .int (nI i), mj_U, mj_U]) (lf_rl (lf_rl (lf_rl (lf_rl (lf_rl (lf_ri (lf_ri (lf_r0)))))))) (hk _ _ _ (by omega) (by omega))
        · refine lf_aload rfl ?_
          refine lf_iconst lf_c0 ?_
          refine lf_lald h lf_a404 ?_
          intro k6 h
          refine lf_iload rfl ?_
          refine lf_i2l ?_
          refine lf_lcmp ?_
          refine lf_if_eq h (fun h => ?_) (fun h => ?_)
          · refine lf_blk B_Lw_lawmain_2983 ?_
            refine lf_goto ?_
            cases h
            exact mj_w_weak (ls := [.ref mj_SC, .ref 0, .ref 389, .ref 404, .int (nI i), mj_U, mj_U]) (lf_rl (lf_rl (lf_rl (lf_rl (lf_rl (lf_ri (lf_ri (lf_r0)))))))) (hk _ _ _ (by omega) (by omega))
          · refine lf_iconst lf_c0 ?_
            cases h
      · refine lf_iconst lf_c0 ?_
        cases h
    · refine lf_iconst lf_c1 ?_
      refine lf_goto ?_
      refine lf_blk B_Lw_lawmain_2950 ?_
      refine lf_callVWi (as := [.int (sc.2 (i + 1)), .int (1 : Int32)]) (rest := []) h rfl rfl lf_a389 rfl (Nat.le_trans (by decide) hd) rfl rfl (fun p7 h9 => s_Mod_led h9) ?_
      intro p7 h
      refine lf_istore (L := fun y8 => [.ref mj_SC, .ref 0, .ref 389, .ref 404, .int (nI i), .int y2, .int y8]) h rfl rfl (fun _ => rfl) ?_
      intro y8 h
      refine lf_aload rfl ?_
      refine lf_callVRi (as := []) (rest := []) h rfl rfl lf_a389 rfl (Nat.le_trans (by decide) hd) rfl rfl (fun p9 h9 => s_Mod_thrown h9) ?_
      intro p9 h
      refine lf_iload rfl ?_
      refine lf_icmp_eq h (fun h => ?_) (fun h => ?_)
      · refine lf_blk B_Lw_lawmain_2966 ?_
        refine lf_iload rfl ?_
        refine lf_if_ne h (fun h => ?_) (fun h => ?_)
        · refine lf_blk B_Lw_lawmain_2983 ?_
          refine lf_goto ?_
          cases h
          exact mj_w_weak (ls := [.ref mj_SC, .ref 0, .ref 389, .ref 404, .int (nI i), mj_U, mj_U]) (lf_rl (lf_rl (lf_rl (lf_rl (lf_rl (lf_ri (lf_ri (lf_r0)))))))) (hk _ _ _ (by omega) (by omega))
        · refine lf_aload rfl ?_
          refine lf_iconst lf_c0 ?_
          refine lf_lald h lf_a404 ?_
          intro k10 h
          refine lf_iload rfl ?_
          refine lf_i2l ?_
          refine lf_lcmp ?_
          refine lf_if_eq h (fun h => ?_) (fun h => ?_)
          · refine lf_blk B_Lw_lawmain_2983 ?_
            refine lf_goto ?_
            cases h
            exact mj_w_weak (ls := [.ref mj_SC, .ref 0, .ref 389, .ref 404, .int (nI i), mj_U, mj_U]) (lf_rl (lf_rl (lf_rl (lf_rl (lf_rl (lf_ri (lf_ri (lf_r0)))))))) (hk _ _ _ (by omega) (by omega))
          · refine lf_iconst lf_c0 ?_
            cases h
      · refine lf_iconst lf_c0 ?_
        cases h
  · refine lf_iconst lf_c1 ?_
    refine lf_goto ?_
    refine lf_blk B_Lw_lawmain_2923 ?_
    refine lf_aload rfl ?_
    refine lf_callSo (as := [.ref 0, .int (sc.2 (i + 1)), .int (1 : Int32), .ref 404]) (rest := []) h rfl rfl (Nat.le_trans (by decide) hd) rfl rfl hrc hrs (fun p11 h9 => s_Lw_led h9) ?_
    intro p11 p11c h
    refine lf_istore (L := fun y12 => [.ref mj_SC, .ref 0, .ref 389, .ref 404, .int (nI i), .int y12, mj_U]) h rfl rfl (fun _ => rfl) ?_
    intro y12 h
    refine lf_aload rfl ?_
    refine lf_aload rfl ?_
    refine lf_iload rfl ?_
    refine lf_iconst lf_c1 ?_
    refine lf_iadd ?_
    refine lf_scr (k := 1) hi hsc (by decide) rfl ?_
    refine lf_aload rfl ?_
    refine lf_iload rfl ?_
    refine lf_iconst lf_c2 ?_
    refine lf_iadd ?_
    refine lf_scr (k := 2) hi hsc (by decide) rfl ?_
    refine lf_if_eq h (fun h => ?_) (fun h => ?_)
    · refine lf_blk B_Lw_lawmain_2949 ?_
      refine lf_iconst lf_c0 ?_
      refine lf_end ?_
      refine lf_blk B_Lw_lawmain_2950 ?_
      refine lf_callVWi (as := [.int (sc.2 (i + 1)), .int (0 : Int32)]) (rest := []) h rfl rfl lf_a389 rfl (Nat.le_trans (by decide) hd) rfl rfl (fun p13 h9 => s_Mod_led h9) ?_
      intro p13 h
      refine lf_istore (L := fun y14 => [.ref mj_SC, .ref 0, .ref 389, .ref 404, .int (nI i), .int y12, .int y14]) h rfl rfl (fun _ => rfl) ?_
      intro y14 h
      refine lf_aload rfl ?_
      refine lf_callVRi (as := []) (rest := []) h rfl rfl lf_a389 rfl (Nat.le_trans (by decide) hd) rfl rfl (fun p15 h9 => s_Mod_thrown h9) ?_
      intro p15 h
      refine lf_iload rfl ?_
      refine lf_icmp_eq h (fun h => ?_) (fun h => ?_)
      · refine lf_blk B_Lw_lawmain_2966 ?_
        refine lf_iload rfl ?_
        refine lf_if_ne h (fun h => ?_) (fun h => ?_)
        · refine lf_blk B_Lw_lawmain_2983 ?_
          refine lf_goto ?_
          cases h
          exact mj_w_weak (ls := [.ref mj_SC, .ref 0, .ref 389, .ref 404, .int (nI i), mj_U, mj_U]) (lf_rl (lf_rl (lf_rl (lf_rl (lf_rl (lf_ri (lf_ri (lf_r0)))))))) (hk _ _ _ (by omega) (by omega))
        · refine lf_aload rfl ?_
          refine lf_iconst lf_c0 ?_
          refine lf_lald h lf_a404 ?_
          intro k16 h
          refine lf_iload rfl ?_
          refine lf_i2l ?_
          refine lf_lcmp ?_
          refine lf_if_eq h (fun h => ?_) (fun h => ?_)
          · refine lf_blk B_Lw_lawmain_2983 ?_
            refine lf_goto ?_
            cases h
            exact mj_w_weak (ls := [.ref mj_SC, .ref 0, .ref 389, .ref 404, .int (nI i), mj_U, mj_U]) (lf_rl (lf_rl (lf_rl (lf_rl (lf_rl (lf_ri (lf_ri (lf_r0)))))))) (hk _ _ _ (by omega) (by omega))
          · refine lf_iconst lf_c0 ?_
            cases h
      · refine lf_iconst lf_c0 ?_
        cases h
    · refine lf_iconst lf_c1 ?_
      refine lf_goto ?_
      refine lf_blk B_Lw_lawmain_2950 ?_
      refine lf_callVWi (as := [.int (sc.2 (i + 1)), .int (1 : Int32)]) (rest := []) h rfl rfl lf_a389 rfl (Nat.le_trans (by decide) hd) rfl rfl (fun p17 h9 => s_Mod_led h9) ?_
      intro p17 h
      refine lf_istore (L := fun y18 => [.ref mj_SC, .ref 0, .ref 389, .ref 404, .int (nI i), .int y12, .int y18]) h rfl rfl (fun _ => rfl) ?_
      intro y18 h
      refine lf_aload rfl ?_
      refine lf_callVRi (as := []) (rest := []) h rfl rfl lf_a389 rfl (Nat.le_trans (by decide) hd) rfl rfl (fun p19 h9 => s_Mod_thrown h9) ?_
      intro p19 h
      refine lf_iload rfl ?_
      refine lf_icmp_eq h (fun h => ?_) (fun h => ?_)
      · refine lf_blk B_Lw_lawmain_2966 ?_
        refine lf_iload rfl ?_
        refine lf_if_ne h (fun h => ?_) (fun h => ?_)
        · refine lf_blk B_Lw_lawmain_2983 ?_
          refine lf_goto ?_
          cases h
          exact mj_w_weak (ls := [.ref mj_SC, .ref 0, .ref 389, .ref 404, .int (nI i), mj_U, mj_U]) (lf_rl (lf_rl (lf_rl (lf_rl (lf_rl (lf_ri (lf_ri (lf_r0)))))))) (hk _ _ _ (by omega) (by omega))
        · refine lf_aload rfl ?_
          refine lf_iconst lf_c0 ?_
          refine lf_lald h lf_a404 ?_
          intro k20 h
          refine lf_iload rfl ?_
          refine lf_i2l ?_
          refine lf_lcmp ?_
          refine lf_if_eq h (fun h => ?_) (fun h => ?_)
          · refine lf_blk B_Lw_lawmain_2983 ?_
            refine lf_goto ?_
            cases h
            exact mj_w_weak (ls := [.ref mj_SC, .ref 0, .ref 389, .ref 404, .int (nI i), mj_U, mj_U]) (lf_rl (lf_rl (lf_rl (lf_rl (lf_rl (lf_ri (lf_ri (lf_r0)))))))) (hk _ _ _ (by omega) (by omega))
          · refine lf_iconst lf_c0 ?_
            cases h
      · refine lf_iconst lf_c0 ?_
        cases h
theorem s_case_47 {sc : Nat × (Nat → Int32)} {d i : Nat} {Q : mj_Q} {s p : lf_S} {cl : Bool} {rc rs : Nat} (hd : 300 ≤ d) (hi : i + 6 ≤ sc.1) (hsc : sc.1 ≤ 3072) (hrc : 1 ≤ rc) (hrs : 6 ≤ rs) (h : f_case_47 (sc.2 (i + 1)) (sc.2 (i + 2)) s = some p) (hk : ∀ cl' rc' rs', rc - 1 ≤ rc' → rs - 6 ≤ rs' → lf_wp sc d j_Lw_lawmain Q 3141 [.ref mj_SC, .ref 0, .ref 389, .ref 404, .int (nI i), mj_U, mj_U] [] (lf_hp p) cl' rc' rs') : lf_wp sc d j_Lw_lawmain Q 2986 [.ref mj_SC, .ref 0, .ref 389, .ref 404, .int (nI i), mj_U, mj_U] [] (lf_hp s) cl rc rs := by
  unfold f_case_47 at h
  refine lf_blk B_Lw_lawmain_2986 ?_
  refine lf_aload rfl ?_
  refine lf_aload rfl ?_
  refine lf_iload rfl ?_
  refine lf_iconst lf_c1 ?_
  refine lf_iadd ?_
  refine lf_scr (k := 1) hi hsc (by decide) rfl ?_
  refine lf_aload rfl ?_
  refine lf_iload rfl ?_
  refine lf_iconst lf_c2 ?_
  refine lf_iadd ?_
  refine lf_scr (k := 2) hi hsc (by decide) rfl ?_
  refine lf_aload rfl ?_
  refine lf_callSo (as := [.ref 0, .int (sc.2 (i + 1)), .int (sc.2 (i + 2)), .ref 404]) (rest := []) h rfl rfl (Nat.le_trans (by decide) hd) rfl rfl hrc hrs (fun p1 h9 => s_Lw_log h9) ?_
  intro p1 p1c h
  refine lf_istore (L := fun y2 => [.ref mj_SC, .ref 0, .ref 389, .ref 404, .int (nI i), .int y2, mj_U]) h rfl rfl (fun _ => rfl) ?_
  intro y2 h
  refine lf_aload rfl ?_
  refine lf_aload rfl ?_
  refine lf_iload rfl ?_
  refine lf_iconst lf_c1 ?_
  refine lf_iadd ?_
  refine lf_scr (k := 1) hi hsc (by decide) rfl ?_
  refine lf_aload rfl ?_
  refine lf_iload rfl ?_
  refine lf_iconst lf_c2 ?_
  refine lf_iadd ?_
  refine lf_scr (k := 2) hi hsc (by decide) rfl ?_
  refine lf_callVWi (as := [.int (sc.2 (i + 1)), .int (sc.2 (i + 2))]) (rest := []) h rfl rfl lf_a389 rfl (Nat.le_trans (by decide) hd) rfl rfl (fun p3 h9 => s_Mod_log h9) ?_
  intro p3 h
  refine lf_istore (L := fun y4 => [.ref mj_SC, .ref 0, .ref 389, .ref 404, .int (nI i), .int y2, .int y4]) h rfl rfl (fun _ => rfl) ?_
  intro y4 h
  refine lf_aload rfl ?_
  refine lf_callVRi (as := []) (rest := []) h rfl rfl lf_a389 rfl (Nat.le_trans (by decide) hd) rfl rfl (fun p5 h9 => s_Mod_thrown h9) ?_
  intro p5 h
  refine lf_iload rfl ?_
  refine lf_icmp_eq h (fun h => ?_) (fun h => ?_)
  · refine lf_blk B_Lw_lawmain_3034 ?_
    refine lf_iload rfl ?_
    refine lf_if_ne h (fun h => ?_) (fun h => ?_)
    · refine lf_blk B_Lw_lawmain_3051 ?_
      refine lf_goto ?_
      cases h
      exact mj_w_weak (ls := [.ref mj_SC, .ref 0, .ref 389, .ref 404, .int (nI i), mj_U, mj_U]) (lf_rl (lf_rl (lf_rl (lf_rl (lf_rl (lf_ri (lf_ri (lf_r0)))))))) (hk _ _ _ (by omega) (by omega))
    · refine lf_aload rfl ?_
      refine lf_iconst lf_c0 ?_
      refine lf_lald h lf_a404 ?_
      intro k6 h
      refine lf_iload rfl ?_
      refine lf_i2l ?_
      refine lf_lcmp ?_
      refine lf_if_eq h (fun h => ?_) (fun h => ?_)
      · refine lf_blk B_Lw_lawmain_3051 ?_
        refine lf_goto ?_
        cases h
        exact mj_w_weak (ls := [.ref mj_SC, .ref 0, .ref 389, .ref 404, .int (nI i), mj_U, mj_U]) (lf_rl (lf_rl (lf_rl (lf_rl (lf_rl (lf_ri (lf_ri (lf_r0)))))))) (hk _ _ _ (by omega) (by omega))
      · refine lf_iconst lf_c0 ?_
        cases h
  · refine lf_iconst lf_c0 ?_
    cases h
theorem s_case_48 {sc : Nat × (Nat → Int32)} {d i : Nat} {Q : mj_Q} {s p : lf_S} {cl : Bool} {rc rs : Nat} (hd : 300 ≤ d) (hi : i + 6 ≤ sc.1) (hsc : sc.1 ≤ 3072) (hrc : 1 ≤ rc) (hrs : 6 ≤ rs) (h : f_case_48 (sc.2 (i + 1)) s = some p) (hk : ∀ cl' rc' rs', rc - 1 ≤ rc' → rs - 6 ≤ rs' → lf_wp sc d j_Lw_lawmain Q 3141 [.ref mj_SC, .ref 0, .ref 389, .ref 404, .int (nI i), mj_U, mj_U] [] (lf_hp p) cl' rc' rs') : lf_wp sc d j_Lw_lawmain Q 3054 [.ref mj_SC, .ref 0, .ref 389, .ref 404, .int (nI i), mj_U, mj_U] [] (lf_hp s) cl rc rs := by
  unfold f_case_48 at h
  refine lf_blk B_Lw_lawmain_3054 ?_
  refine lf_aload rfl ?_
  refine lf_aload rfl ?_
  refine lf_iload rfl ?_
  refine lf_iconst lf_c1 ?_
  refine lf_iadd ?_
  refine lf_scr (k := 1) hi hsc (by decide) rfl ?_
  refine lf_callVWi (as := [.int (sc.2 (i + 1))]) (rest := []) h rfl rfl lf_a0 rfl (Nat.le_trans (by decide) hd) rfl rfl (fun p1 h9 => s_Main_seed h9) ?_
  intro p1 h
  refine lf_aload rfl ?_
  refine lf_aload rfl ?_
  refine lf_iload rfl ?_
  refine lf_iconst lf_c1 ?_
  refine lf_iadd ?_
  refine lf_scr (k := 1) hi hsc (by decide) rfl ?_
  refine lf_callVWi (as := [.int (sc.2 (i + 1))]) (rest := [.int p1.1]) h rfl rfl lf_a389 rfl (Nat.le_trans (by decide) hd) rfl rfl (fun p2 h9 => s_Mod_seed h9) ?_
  intro p2 h
  refine lf_icmp_eq h (fun h => ?_) (fun h => ?_)
  · cases h
    exact mj_w_weak (ls := [.ref mj_SC, .ref 0, .ref 389, .ref 404, .int (nI i), mj_U, mj_U]) (lf_rl (lf_rl (lf_rl (lf_rl (lf_rl (lf_rl (lf_rl (lf_r0)))))))) (hk _ _ _ (by omega) (by omega))
  · refine lf_iconst lf_c0 ?_
    cases h
theorem s_case_49 {sc : Nat × (Nat → Int32)} {d i : Nat} {Q : mj_Q} {s p : lf_S} {cl : Bool} {rc rs : Nat} (hd : 300 ≤ d) (hi : i + 6 ≤ sc.1) (hsc : sc.1 ≤ 3072) (hrc : 1 ≤ rc) (hrs : 6 ≤ rs) (h : f_case_49 s = some p) (hk : ∀ cl' rc' rs', rc - 1 ≤ rc' → rs - 6 ≤ rs' → lf_wp sc d j_Lw_lawmain Q 3141 [.ref mj_SC, .ref 0, .ref 389, .ref 404, .int (nI i), mj_U, mj_U] [] (lf_hp p) cl' rc' rs') : lf_wp sc d j_Lw_lawmain Q 3079 [.ref mj_SC, .ref 0, .ref 389, .ref 404, .int (nI i), mj_U, mj_U] [] (lf_hp s) cl rc rs := by
  unfold f_case_49 at h
  refine lf_blk B_Lw_lawmain_3079 ?_
  refine lf_aload rfl ?_
  refine lf_callVWb (as := []) (rest := []) h rfl rfl lf_a0 rfl (Nat.le_trans (by decide) hd) rfl rfl (fun p1 h9 => s_Main_undo h9) ?_
  intro p1 h
  refine lf_aload rfl ?_
  refine lf_callVWb (as := []) (rest := [.int (lf_i p1.1)]) h rfl rfl lf_a389 rfl (Nat.le_trans (by decide) hd) rfl rfl (fun p2 h9 => s_Mod_undo h9) ?_
  intro p2 h
  refine lf_icmpb_eq h (fun h => ?_) (fun h => ?_)
  · cases h
    exact mj_w_weak (ls := [.ref mj_SC, .ref 0, .ref 389, .ref 404, .int (nI i), mj_U, mj_U]) (lf_rl (lf_rl (lf_rl (lf_rl (lf_rl (lf_rl (lf_rl (lf_r0)))))))) (hk _ _ _ (by omega) (by omega))
  · refine lf_iconst lf_c0 ?_
    cases h
theorem s_case_50 {sc : Nat × (Nat → Int32)} {d i : Nat} {Q : mj_Q} {s p : lf_S} {cl : Bool} {rc rs : Nat} (hd : 300 ≤ d) (hi : i + 6 ≤ sc.1) (hsc : sc.1 ≤ 3072) (hrc : 1 ≤ rc) (hrs : 6 ≤ rs) (h : f_case_50 s = some p) (hk : ∀ cl' rc' rs', rc - 1 ≤ rc' → rs - 6 ≤ rs' → lf_wp sc d j_Lw_lawmain Q 3141 [.ref mj_SC, .ref 0, .ref 389, .ref 404, .int (nI i), mj_U, mj_U] [] (lf_hp p) cl' rc' rs') : lf_wp sc d j_Lw_lawmain Q 3092 [.ref mj_SC, .ref 0, .ref 389, .ref 404, .int (nI i), mj_U, mj_U] [] (lf_hp s) cl rc rs := by
  unfold f_case_50 at h
  refine lf_blk B_Lw_lawmain_3092 ?_
  refine lf_aload rfl ?_
  refine lf_callVWu (as := []) (rest := []) h rfl rfl lf_a0 rfl (Nat.le_trans (by decide) hd) rfl rfl (fun p1 h9 => s_Main_image h9) ?_
  intro p1 h
  refine lf_aload rfl ?_
  refine lf_callVWu (as := []) (rest := []) h rfl rfl lf_a389 rfl (Nat.le_trans (by decide) hd) rfl rfl (fun p2 h9 => s_Mod_image h9) ?_
  intro p2 h
  refine lf_goto ?_
  cases h
  exact mj_w_weak (ls := [.ref mj_SC, .ref 0, .ref 389, .ref 404, .int (nI i), mj_U, mj_U]) (lf_rl (lf_rl (lf_rl (lf_rl (lf_rl (lf_rl (lf_rl (lf_r0)))))))) (hk _ _ _ (by omega) (by omega))
theorem s_case_51 {sc : Nat × (Nat → Int32)} {d i : Nat} {Q : mj_Q} {s p : lf_S} {cl : Bool} {rc rs : Nat} (hd : 300 ≤ d) (hi : i + 6 ≤ sc.1) (hsc : sc.1 ≤ 3072) (hrc : 1 ≤ rc) (hrs : 6 ≤ rs) (h : f_case_51 s = some p) (hk : ∀ cl' rc' rs', rc - 1 ≤ rc' → rs - 6 ≤ rs' → lf_wp sc d j_Lw_lawmain Q 3141 [.ref mj_SC, .ref 0, .ref 389, .ref 404, .int (nI i), mj_U, mj_U] [] (lf_hp p) cl' rc' rs') : lf_wp sc d j_Lw_lawmain Q 3103 [.ref mj_SC, .ref 0, .ref 389, .ref 404, .int (nI i), mj_U, mj_U] [] (lf_hp s) cl rc rs := by
  unfold f_case_51 at h
  refine lf_blk B_Lw_lawmain_3103 ?_
  refine lf_aload rfl ?_
  refine lf_callVWb (as := []) (rest := []) h rfl rfl lf_a0 rfl (Nat.le_trans (by decide) hd) rfl rfl (fun p1 h9 => s_Main_back h9) ?_
  intro p1 h
  refine lf_aload rfl ?_
  refine lf_callVWb (as := []) (rest := [.int (lf_i p1.1)]) h rfl rfl lf_a389 rfl (Nat.le_trans (by decide) hd) rfl rfl (fun p2 h9 => s_Mod_back h9) ?_
  intro p2 h
  refine lf_icmpb_eq h (fun h => ?_) (fun h => ?_)
  · cases h
    exact mj_w_weak (ls := [.ref mj_SC, .ref 0, .ref 389, .ref 404, .int (nI i), mj_U, mj_U]) (lf_rl (lf_rl (lf_rl (lf_rl (lf_rl (lf_rl (lf_rl (lf_r0)))))))) (hk _ _ _ (by omega) (by omega))
  · refine lf_iconst lf_c0 ?_
    cases h
theorem s_case_52 {sc : Nat × (Nat → Int32)} {d i : Nat} {Q : mj_Q} {s p : lf_S} {cl : Bool} {rc rs : Nat} (hd : 300 ≤ d) (hi : i + 6 ≤ sc.1) (hsc : sc.1 ≤ 3072) (hrc : 1 ≤ rc) (hrs : 6 ≤ rs) (h : f_case_52 (sc.2 (i + 1)) s = some p) (hk : ∀ cl' rc' rs', rc - 1 ≤ rc' → rs - 6 ≤ rs' → lf_wp sc d j_Lw_lawmain Q 3141 [.ref mj_SC, .ref 0, .ref 389, .ref 404, .int (nI i), mj_U, mj_U] [] (lf_hp p) cl' rc' rs') : lf_wp sc d j_Lw_lawmain Q 3116 [.ref mj_SC, .ref 0, .ref 389, .ref 404, .int (nI i), mj_U, mj_U] [] (lf_hp s) cl rc rs := by
  unfold f_case_52 at h
  refine lf_blk B_Lw_lawmain_3116 ?_
  refine lf_aload rfl ?_
  refine lf_aload rfl ?_
  refine lf_iload rfl ?_
  refine lf_iconst lf_c1 ?_
  refine lf_iadd ?_
  refine lf_scr (k := 1) hi hsc (by decide) rfl ?_
  refine lf_callVRi (as := [.int (sc.2 (i + 1))]) (rest := []) h rfl rfl lf_a0 rfl (Nat.le_trans (by decide) hd) rfl rfl (fun p1 h9 => s_Main_count h9) ?_
  intro p1 h
  refine lf_aload rfl ?_
  refine lf_aload rfl ?_
  refine lf_iload rfl ?_
  refine lf_iconst lf_c1 ?_
  refine lf_iadd ?_
  refine lf_scr (k := 1) hi hsc (by decide) rfl ?_
  refine lf_callVWi (as := [.int (sc.2 (i + 1))]) (rest := [.int p1]) h rfl rfl lf_a389 rfl (Nat.le_trans (by decide) hd) rfl rfl (fun p2 h9 => s_Mod_count h9) ?_
  intro p2 h
  refine lf_icmp_eq h (fun h => ?_) (fun h => ?_)
  · cases h
    exact mj_w_weak (ls := [.ref mj_SC, .ref 0, .ref 389, .ref 404, .int (nI i), mj_U, mj_U]) (lf_rl (lf_rl (lf_rl (lf_rl (lf_rl (lf_rl (lf_rl (lf_r0)))))))) (hk _ _ _ (by omega) (by omega))
  · refine lf_iconst lf_c0 ?_
    cases h
