theorem B_Main_holt_0 : mj_bl j_Main_holt 0 = some ([(0, .aload 0), (1, .getfield 580), (4, .aload 0), (5, .getfield 578), (8, .invokevirtual 33032289), (11, .aload 0), (12, .getfield 576), (15, .aload 0), (16, .getfield 580), (19, .invokestatic 35196258), (22, .istore 1), (23, .aload 0), (24, .getfield 576), (27, .iconst 0), (28, .putfield 449), (31, .iload 1), (32, .ifCond .ne 45), (35, .instanceof 0)], 45) := by rfl
theorem B_Main_holt_45 : mj_bl j_Main_holt 45 = some ([(45, .aload 0), (46, .getfield 578), (49, .getfield 198), (52, .iconst 12), (54, .if_icmp .lt 67), (57, .instanceof 1)], 67) := by rfl
theorem B_Main_holt_67 : mj_bl j_Main_holt 67 = some ([(67, .aload 0), (68, .getfield 578), (71, .aload 0), (72, .getfield 580), (75, .invokevirtual 33032289), (78, .aload 0), (79, .getfield 578), (82, .dup), (83, .getfield 198), (86, .iconst 1), (87, .iadd), (88, .putfield 198), (91, .aload 0), (92, .iconst 0), (93, .putfield 586), (96, .aload 0), (97, .getfield 578), (100, .getfield 198), (103, .ireturn)], 104) := by rfl
theorem B_LawText_readAny_0 : mj_bl j_LawText_readAny 0 = some ([(0, .aload 0), (1, .aload 1), (2, .iload 2), (3, .invokestatic 38146435), (6, .iconst 0), (7, .istore 3)], 8) := by rfl
theorem B_LawText_readAny_8 : mj_bl j_LawText_readAny 8 = some ([(8, .iload 3), (9, .iconst 400), (12, .if_icmp .ge 43), (15, .aload 0), (16, .ldc 58), (18, .invokevirtual 41618657), (21, .ifCond .eq 43), (24, .aload 0), (25, .aload 1), (26, .iload 2), (27, .invokestatic 38146435), (30, .aload 1), (31, .iconst 1015), (34, .invokevirtual 36440193), (37, .iinc 3 (1)), (40, .goto 8)], 43) := by rfl
theorem B_LawText_readAny_43 : mj_bl j_LawText_readAny 43 = some ([(43, .return_)], 44) := by rfl
theorem B_LawText_readAll_0 : mj_bl j_LawText_readAll 0 = some ([(0, .aload 0), (1, .aload 1), (2, .iload 2), (3, .invokestatic 38276483), (6, .iconst 0), (7, .istore 3)], 8) := by rfl
theorem B_LawText_readAll_8 : mj_bl j_LawText_readAll 8 = some ([(8, .iload 3), (9, .iconst 400), (12, .if_icmp .ge 43), (15, .aload 0), (16, .ldc 59), (18, .invokevirtual 41618657), (21, .ifCond .eq 43), (24, .aload 0), (25, .aload 1), (26, .iload 2), (27, .invokestatic 38276483), (30, .aload 1), (31, .iconst 1014), (34, .invokevirtual 36440193), (37, .iinc 3 (1)), (40, .goto 8)], 43) := by rfl
theorem B_LawText_readAll_43 : mj_bl j_LawText_readAll 43 = some ([(43, .return_)], 44) := by rfl
theorem B_LawText_readAtom_0 : mj_bl j_LawText_readAtom 0 = some ([(0, .iload 2), (1, .iconst 6), (3, .if_icmp .ge 33), (6, .aload 0), (7, .ldc 60), (9, .invokevirtual 41618657), (12, .ifCond .eq 33), (15, .aload 0), (16, .aload 1), (17, .iload 2), (18, .iconst 1), (19, .iadd), (20, .invokestatic 38276483), (23, .aload 1), (24, .iconst 1010), (27, .invokevirtual 36440193), (30, .goto 134)], 33) := by rfl
theorem B_LawText_readAtom_33 : mj_bl j_LawText_readAtom 33 = some ([(33, .iload 2), (34, .iconst 6), (36, .if_icmp .ge 72), (39, .aload 0), (40, .iconst 40), (42, .invokevirtual 41356513), (45, .ifCond .eq 72), (48, .aload 0), (49, .aload 1), (50, .iload 2), (51, .iconst 1), (52, .iadd), (53, .invokestatic 38015363), (56, .aload 0), (57, .iconst 41), (59, .invokevirtual 41356513), (62, .ifCond .ne 134), (65, .aload 0), (66, .invokevirtual 40895712), (69, .goto 134)], 72) := by rfl
theorem B_LawText_readAtom_72 : mj_bl j_LawText_readAtom 72 = some ([(72, .aload 0), (73, .ldc 61), (75, .invokevirtual 41618657), (78, .ifCond .eq 91), (81, .aload 1), (82, .iconst 1007), (85, .invokevirtual 36440193), (88, .goto 134)], 91) := by rfl
theorem B_LawText_readAtom_91 : mj_bl j_LawText_readAtom 91 = some ([(91, .aload 0), (92, .ldc 62), (94, .invokevirtual 41618657), (97, .ifCond .eq 110), (100, .aload 1), (101, .iconst 1008), (104, .invokevirtual 36440193), (107, .goto 134)], 110) := by rfl
theorem B_LawText_readAtom_110 : mj_bl j_LawText_readAtom 110 = some ([(110, .aload 0), (111, .ldc 63), (113, .invokevirtual 41618657), (116, .ifCond .eq 129), (119, .aload 1), (120, .iconst 1009), (123, .invokevirtual 36440193), (126, .goto 134)], 129) := by rfl
theorem B_LawText_readAtom_129 : mj_bl j_LawText_readAtom 129 = some ([(129, .aload 0), (130, .aload 1), (131, .invokestatic 38406530)], 134) := by rfl
theorem B_LawText_readAtom_134 : mj_bl j_LawText_readAtom 134 = some ([(134, .return_)], 135) := by rfl
theorem B_LawText_read_0 : mj_bl j_LawText_read 0 = some ([(0, .aload 0), (1, .invokevirtual 40633568), (4, .aload 1), (5, .invokevirtual 36177024), (8, .iconst 0), (9, .istore 2)], 10) := by rfl
theorem B_LawText_read_10 : mj_bl j_LawText_read 10 = some ([(10, .iload 2), (11, .iconst 12), (13, .if_icmp .gt 68), (16, .aload 0), (17, .iload 2), (18, .iconst 12), (20, .invokevirtual 41094370), (23, .ifCond .eq 68), (26, .aload 0), (27, .invokestatic 37881217), (30, .istore 3), (31, .aload 0), (32, .iconst 0), (33, .iconst 99), (35, .invokevirtual 41948386), (38, .istore 4), (40, .aload 0), (41, .ldc 54), (43, .invokevirtual 41618657), (46, .ifCond .eq 55), (49, .aload 0), (50, .aload 1), (51, .iconst 0), (52, .invokestatic 38015363)], 55) := by rfl
theorem B_LawText_read_55 : mj_bl j_LawText_read 55 = some ([(55, .aload 1), (56, .iload 3), (57, .iload 4), (59, .invokevirtual 36572290), (62, .iinc 2 (1)), (65, .goto 10)], 68) := by rfl
theorem B_LawText_read_68 : mj_bl j_LawText_read 68 = some ([(68, .aload 0), (69, .invokevirtual 40830176), (72, .ifCond .ne 79), (75, .iconst 1), (76, .goto 80)], 79) := by rfl
theorem B_LawText_read_79 : mj_bl j_LawText_read 79 = some ([(79, .iconst 0)], 80) := by rfl
theorem B_LawText_read_80 : mj_bl j_LawText_read 80 = some ([(80, .ireturn)], 81) := by rfl
theorem B_Main_law_0 : mj_bl j_Main_law 0 = some ([(0, .aload 0), (1, .getfield 576), (4, .aload 0), (5, .getfield 581), (8, .invokestatic 37819778), (11, .istore 1), (12, .aload 0), (13, .getfield 576), (16, .iconst 0), (17, .putfield 449), (20, .iload 1), (21, .ifCond .ne 34), (24, .instanceof 0)], 34) := by rfl
theorem B_Main_law_34 : mj_bl j_Main_law 34 = some ([(34, .aload 0), (35, .getfield 579), (38, .aload 0), (39, .getfield 581), (42, .invokevirtual 36309121), (45, .aload 0), (46, .iconst 0), (47, .putfield 586), (50, .aload 0), (51, .getfield 579), (54, .getfield 256), (57, .ireturn)], 58) := by rfl
theorem B_Main_needIndex_0 : mj_bl j_Main_needIndex 0 = some ([(0, .iload 0), (1, .iload 1), (2, .if_icmp .lt 10), (5, .iload 0), (6, .iload 2), (7, .if_icmp .le 21)], 10) := by rfl
theorem B_Main_needIndex_10 : mj_bl j_Main_needIndex 10 = some ([(10, .instanceof 3)], 21) := by rfl
theorem B_Main_needIndex_21 : mj_bl j_Main_needIndex 21 = some ([(21, .return_)], 22) := by rfl
theorem B_Main_needBed_0 : mj_bl j_Main_needBed 0 = some ([(0, .iload 1), (1, .iconst 0), (2, .aload 0), (3, .getfield 578), (6, .getfield 192), (9, .getfield 64), (12, .iconst 1), (13, .isub), (14, .invokestatic 7736611), (17, .return_)], 18) := by rfl
theorem B_Main_bed_0 : mj_bl j_Main_bed 0 = some ([(0, .aload 0), (1, .iload 1), (2, .invokevirtual 7080225), (5, .iload 2), (6, .tableswitch 155 0 7 #[52, 65, 78, 91, 104, 117, 130, 143])], 52) := by rfl
theorem B_Main_bed_52 : mj_bl j_Main_bed 52 = some ([(52, .aload 0), (53, .getfield 578), (56, .getfield 192), (59, .getfield 65), (62, .iload 1), (63, .iaload), (64, .ireturn)], 65) := by rfl
theorem B_Main_bed_65 : mj_bl j_Main_bed 65 = some ([(65, .aload 0), (66, .getfield 578), (69, .getfield 192), (72, .getfield 66), (75, .iload 1), (76, .iaload), (77, .ireturn)], 78) := by rfl
theorem B_Main_bed_78 : mj_bl j_Main_bed 78 = some ([(78, .aload 0), (79, .getfield 578), (82, .getfield 192), (85, .getfield 67), (88, .iload 1), (89, .iaload), (90, .ireturn)], 91) := by rfl
theorem B_Main_bed_91 : mj_bl j_Main_bed 91 = some ([(91, .aload 0), (92, .getfield 578), (95, .getfield 192), (98, .getfield 68), (101, .iload 1), (102, .iaload), (103, .ireturn)], 104) := by rfl
theorem B_Main_bed_104 : mj_bl j_Main_bed 104 = some ([(104, .aload 0), (105, .getfield 579), (108, .aload 0), (109, .getfield 578), (112, .iload 1), (113, .invokevirtual 36704386), (116, .ireturn)], 117) := by rfl
theorem B_Main_bed_117 : mj_bl j_Main_bed 117 = some ([(117, .aload 0), (118, .getfield 579), (121, .aload 0), (122, .getfield 578), (125, .iload 1), (126, .invokevirtual 36834434), (129, .ireturn)], 130) := by rfl
theorem B_Main_bed_130 : mj_bl j_Main_bed 130 = some ([(130, .aload 0), (131, .getfield 579), (134, .aload 0), (135, .getfield 578), (138, .iload 1), (139, .invokevirtual 36965506), (142, .ireturn)], 143) := by rfl
theorem B_Main_bed_143 : mj_bl j_Main_bed 143 = some ([(143, .aload 0), (144, .getfield 578), (147, .getfield 192), (150, .iload 1), (151, .invokevirtual 31854625), (154, .ireturn)], 155) := by rfl
theorem B_Main_bed_155 : mj_bl j_Main_bed 155 = some ([(155, .instanceof 2)], 165) := by rfl
theorem B_Main_needBasket_0 : mj_bl j_Main_needBasket 0 = some ([(0, .iload 1), (1, .iconst 0), (2, .aload 0), (3, .getfield 578), (6, .getfield 193), (9, .getfield 0), (12, .iconst 1), (13, .isub), (14, .invokestatic 7736611), (17, .return_)], 18) := by rfl
theorem B_Main_basket_0 : mj_bl j_Main_basket 0 = some ([(0, .aload 0), (1, .iload 1), (2, .invokevirtual 7211297), (5, .aload 0), (6, .getfield 578), (9, .getfield 193), (12, .astore 3), (13, .iload 2), (14, .tableswitch 173 0 12 #[80, 87, 94, 101, 108, 114, 121, 127, 139, 145, 151, 157, 163])], 80) := by rfl
theorem B_Main_basket_80 : mj_bl j_Main_basket 80 = some ([(80, .aload 3), (81, .getfield 1), (84, .iload 1), (85, .iaload), (86, .ireturn)], 87) := by rfl
theorem B_Main_basket_87 : mj_bl j_Main_basket 87 = some ([(87, .aload 3), (88, .getfield 2), (91, .iload 1), (92, .iaload), (93, .ireturn)], 94) := by rfl
theorem B_Main_basket_94 : mj_bl j_Main_basket 94 = some ([(94, .aload 3), (95, .getfield 3), (98, .iload 1), (99, .iaload), (100, .ireturn)], 101) := by rfl
theorem B_Main_basket_101 : mj_bl j_Main_basket 101 = some ([(101, .aload 3), (102, .getfield 4), (105, .iload 1), (106, .iaload), (107, .ireturn)], 108) := by rfl
theorem B_Main_basket_108 : mj_bl j_Main_basket 108 = some ([(108, .aload 3), (109, .iload 1), (110, .invokevirtual 29626369), (113, .ireturn)], 114) := by rfl
theorem B_Main_basket_114 : mj_bl j_Main_basket 114 = some ([(114, .aload 3), (115, .getfield 6), (118, .iload 1), (119, .iaload), (120, .ireturn)], 121) := by rfl
theorem B_Main_basket_121 : mj_bl j_Main_basket 121 = some ([(121, .aload 3), (122, .iload 1), (123, .invokevirtual 29757441), (126, .ireturn)], 127) := by rfl
theorem B_Main_basket_127 : mj_bl j_Main_basket 127 = some ([(127, .aload 3), (128, .iload 1), (129, .aload 3), (130, .getfield 1), (133, .iload 1), (134, .iaload), (135, .invokevirtual 30020610), (138, .ireturn)], 139) := by rfl
theorem B_Main_basket_139 : mj_bl j_Main_basket 139 = some ([(139, .aload 3), (140, .iload 1), (141, .invokevirtual 30148609), (144, .ireturn)], 145) := by rfl
theorem B_Main_basket_145 : mj_bl j_Main_basket 145 = some ([(145, .aload 3), (146, .iload 1), (147, .invokevirtual 30281729), (150, .ireturn)], 151) := by rfl
theorem B_Main_basket_151 : mj_bl j_Main_basket 151 = some ([(151, .aload 3), (152, .iload 1), (153, .invokevirtual 30543873), (156, .ireturn)], 157) := by rfl
theorem B_Main_basket_157 : mj_bl j_Main_basket 157 = some ([(157, .aload 3), (158, .iload 1), (159, .invokevirtual 30804993), (162, .ireturn)], 163) := by rfl
theorem B_Main_basket_163 : mj_bl j_Main_basket 163 = some ([(163, .aload 0), (164, .getfield 577), (167, .aload 3), (168, .iload 1), (169, .invokevirtual 44702978), (172, .ireturn)], 173) := by rfl
theorem B_Main_basket_173 : mj_bl j_Main_basket 173 = some ([(173, .instanceof 2)], 183) := by rfl
theorem B_Main_run_0 : mj_bl j_Main_run 0 = some ([(0, .aload 0), (1, .iload 1), (2, .invokevirtual 7211297), (5, .iload 2), (6, .ifCond .lt 25), (9, .iload 2), (10, .aload 0), (11, .getfield 578), (14, .getfield 193), (17, .getfield 5), (20, .iload 1), (21, .iaload), (22, .if_icmp .lt 27)], 25) := by rfl
theorem B_Main_run_25 : mj_bl j_Main_run 25 = some ([(25, .iconst (-1)), (26, .ireturn)], 27) := by rfl
theorem B_Main_run_27 : mj_bl j_Main_run 27 = some ([(27, .aload 0), (28, .getfield 578), (31, .getfield 193), (34, .iload 1), (35, .iload 2), (36, .invokevirtual 29363202), (39, .ireturn)], 40) := by rfl
theorem B_Main_over_0 : mj_bl j_Main_over 0 = some ([(0, .aload 0), (1, .iload 1), (2, .invokevirtual 7211297), (5, .aload 0), (6, .getfield 578), (9, .getfield 193), (12, .getfield 1), (15, .iload 1), (16, .iaload), (17, .istore 4), (19, .iload 2), (20, .ifCond .lt 49), (23, .iload 2), (24, .aload 0), (25, .getfield 578), (28, .getfield 193), (31, .getfield 2), (34, .iload 1), (35, .iaload), (36, .if_icmp .ge 49), (39, .iload 3), (40, .ifCond .lt 49), (43, .iload 3), (44, .iload 4), (46, .if_icmp .lt 59)], 49) := by rfl
theorem B_Main_over_49 : mj_bl j_Main_over 49 = some ([(49, .instanceof 0)], 59) := by rfl
theorem B_Main_over_59 : mj_bl j_Main_over 59 = some ([(59, .aload 0), (60, .getfield 578), (63, .getfield 193), (66, .iload 1), (67, .iload 2), (68, .iload 4), (70, .imul), (71, .iload 3), (72, .iadd), (73, .invokevirtual 29560834), (76, .ireturn)], 77) := by rfl
theorem B_Main_sound_0 : mj_bl j_Main_sound 0 = some ([(0, .aload 0), (1, .iload 1), (2, .invokevirtual 7211297), (5, .aload 0), (6, .getfield 578), (9, .getfield 193), (12, .iload 1), (13, .aload 0), (14, .getfield 578), (17, .getfield 193), (20, .getfield 1), (23, .iload 1), (24, .iaload), (25, .invokevirtual 30020610), (28, .ifCond .ne 35), (31, .iconst 1), (32, .goto 36)], 35) := by rfl
theorem B_Main_sound_35 : mj_bl j_Main_sound 35 = some ([(35, .iconst 0)], 36) := by rfl
theorem B_Main_sound_36 : mj_bl j_Main_sound 36 = some ([(36, .ireturn)], 37) := by rfl
theorem B_Main_needFeet_0 : mj_bl j_Main_needFeet 0 = some ([(0, .iload 0), (1, .iconst 1), (2, .iconst 6), (4, .invokestatic 7736611), (7, .return_)], 8) := by rfl
theorem B_Main_store_0 : mj_bl j_Main_store 0 = some ([(0, .iload 1), (1, .invokestatic 7603489), (4, .aload 0), (5, .getfield 578), (8, .getfield 197), (11, .iload 1), (12, .iaload), (13, .ireturn)], 14) := by rfl
theorem B_Main_needHand_0 : mj_bl j_Main_needHand 0 = some ([(0, .iload 1), (1, .iconst 0), (2, .aload 0), (3, .getfield 578), (6, .getfield 194), (9, .getfield 128), (12, .iconst 1), (13, .isub), (14, .invokestatic 7736611), (17, .return_)], 18) := by rfl
theorem B_Main_hand_0 : mj_bl j_Main_hand 0 = some ([(0, .aload 0), (1, .iload 1), (2, .invokevirtual 7342369), (5, .iload 2), (6, .ifCond .eq 24), (9, .aload 0), (10, .getfield 578), (13, .getfield 194), (16, .getfield 130), (19, .iload 1), (20, .iaload), (21, .goto 36)], 24) := by rfl
theorem B_Main_hand_24 : mj_bl j_Main_hand 24 = some ([(24, .aload 0), (25, .getfield 578), (28, .getfield 194), (31, .getfield 129), (34, .iload 1), (35, .iaload)], 36) := by rfl
theorem B_Main_hand_36 : mj_bl j_Main_hand 36 = some ([(36, .ireturn)], 37) := by rfl
theorem B_Main_needOrder_0 : mj_bl j_Main_needOrder 0 = some ([(0, .iload 1), (1, .iconst 0), (2, .aload 0), (3, .getfield 578), (6, .getfield 195), (9, .getfield 384), (12, .iconst 1), (13, .isub), (14, .invokestatic 7736611), (17, .return_)], 18) := by rfl
theorem B_Main_order_0 : mj_bl j_Main_order 0 = some ([(0, .aload 0), (1, .iload 1), (2, .invokevirtual 7473441), (5, .iload 2), (6, .tableswitch 91 0 3 #[36, 49, 62, 82])], 36) := by rfl
theorem B_Main_order_36 : mj_bl j_Main_order 36 = some ([(36, .aload 0), (37, .getfield 578), (40, .getfield 195), (43, .getfield 386), (46, .iload 1), (47, .iaload), (48, .ireturn)], 49) := by rfl
theorem B_Main_order_49 : mj_bl j_Main_order 49 = some ([(49, .aload 0), (50, .getfield 578), (53, .getfield 195), (56, .getfield 387), (59, .iload 1), (60, .iaload), (61, .ireturn)], 62) := by rfl
theorem B_Main_order_62 : mj_bl j_Main_order 62 = some ([(62, .aload 0), (63, .getfield 578), (66, .getfield 195), (69, .iload 1), (70, .invokevirtual 40175809), (73, .ifCond .eq 80), (76, .iconst 1), (77, .goto 81)], 80) := by rfl
theorem B_Main_order_80 : mj_bl j_Main_order 80 = some ([(80, .iconst 0)], 81) := by rfl
theorem B_Main_order_81 : mj_bl j_Main_order 81 = some ([(81, .ireturn)], 82) := by rfl
theorem B_Main_order_82 : mj_bl j_Main_order 82 = some ([(82, .aload 0), (83, .getfield 578), (86, .iload 1), (87, .invokevirtual 33949793), (90, .ireturn)], 91) := by rfl
theorem B_Main_order_91 : mj_bl j_Main_order 91 = some ([(91, .instanceof 2)], 101) := by rfl
theorem B_Main_needWithin_0 : mj_bl j_Main_needWithin 0 = some ([(0, .iload 0), (1, .iload 1), (2, .if_icmp .lt 10), (5, .iload 0), (6, .iload 2), (7, .if_icmp .le 21)], 10) := by rfl
theorem B_Main_needWithin_10 : mj_bl j_Main_needWithin 10 = some ([(10, .instanceof 0)], 21) := by rfl
theorem B_Main_needWithin_21 : mj_bl j_Main_needWithin 21 = some ([(21, .return_)], 22) := by rfl
theorem B_Main_years_0 : mj_bl j_Main_years 0 = some ([(0, .iload 1), (1, .iconst 1), (2, .iconst 60), (4, .invokestatic 7867683), (7, .aload 0), (8, .invokevirtual 8259872), (11, .aload 0), (12, .getfield 578), (15, .iload 1), (16, .invokevirtual 33296481), (19, .ireturn)], 20) := by rfl
theorem B_Main_needPossible_0 : mj_bl j_Main_needPossible 0 = some ([(0, .iload 0), (1, .ifCond .ne 15), (4, .instanceof 4)], 15) := by rfl
theorem B_Main_needPossible_15 : mj_bl j_Main_needPossible 15 = some ([(15, .return_)], 16) := by rfl
theorem B_Main_cut_0 : mj_bl j_Main_cut 0 = some ([(0, .aload 0), (1, .iload 1), (2, .invokevirtual 7080225), (5, .aload 0), (6, .getfield 579), (9, .aload 0), (10, .getfield 578), (13, .iload 1), (14, .invokevirtual 36704386), (17, .istore 2), (18, .aload 0), (19, .getfield 579), (22, .aload 0), (23, .getfield 578), (26, .iload 1), (27, .invokevirtual 36965506), (30, .istore 3), (31, .iload 2), (32, .ifCond .le 50), (35, .iload 3), (36, .aload 0), (37, .getfield 578), (40, .getfield 200), (43, .if_icmp .gt 50), (46, .iconst 1), (47, .goto 51)], 50) := by rfl
theorem B_Main_cut_50 : mj_bl j_Main_cut 50 = some ([(50, .iconst 0)], 51) := by rfl
theorem B_Main_cut_51 : mj_bl j_Main_cut 51 = some ([(51, .invokestatic 8127777), (54, .aload 0), (55, .getfield 579), (58, .aload 0), (59, .getfield 578), (62, .iload 1), (63, .invokevirtual 36834434), (66, .istore 4), (68, .aload 0), (69, .invokevirtual 8259872), (72, .aload 0), (73, .getfield 578), (76, .dup), (77, .getfield 200), (80, .iload 3), (81, .isub), (82, .putfield 200), (85, .aload 0), (86, .getfield 578), (89, .getfield 192), (92, .getfield 66), (95, .iload 1), (96, .iconst 0), (97, .iastore), (98, .aload 0), (99, .getfield 578), (102, .getfield 197), (105, .iload 2), (106, .aload 0), (107, .getfield 578), (110, .getfield 197), (113, .iload 2), (114, .iaload), (115, .iload 4), (117, .iadd), (118, .iconst 9999), (121, .dup_x2), (124, .iastore), (125, .aload 0), (126, .getfield 578), (129, .getfield 196), (132, .aload 0), (133, .getfield 578), (136, .getfield 201), (139, .iload 1), (140, .iconst 0), (141, .iload 4), (143, .invokevirtual 39065764), (146, .iload 4), (148, .ireturn)], 149) := by rfl
theorem B_Main_buy_0 : mj_bl j_Main_buy 0 = some ([(0, .iload 1), (1, .invokestatic 7603489), (4, .iload 2), (5, .iconst 1), (6, .iconst 999), (9, .invokestatic 7867683), (12, .iload 1), (13, .iload 2), (14, .imul), (15, .aload 0), (16, .getfield 578), (19, .getfield 200), (22, .if_icmp .gt 46), (25, .aload 0), (26, .getfield 578), (29, .getfield 197), (32, .iload 1), (33, .iaload), (34, .iload 2), (35, .iadd), (36, .iconst 9999), (39, .if_icmp .gt 46), (42, .iconst 1), (43, .goto 47)], 46) := by rfl
theorem B_Main_buy_46 : mj_bl j_Main_buy 46 = some ([(46, .iconst 0)], 47) := by rfl
theorem B_Main_buy_47 : mj_bl j_Main_buy 47 = some ([(47, .invokestatic 8127777), (50, .aload 0), (51, .invokevirtual 8259872), (54, .aload 0), (55, .getfield 578), (58, .dup), (59, .getfield 200), (62, .iload 1), (63, .iload 2), (64, .imul), (65, .isub), (66, .putfield 200), (69, .aload 0), (70, .getfield 578), (73, .getfield 197), (76, .iload 1), (77, .dup2), (78, .iaload), (79, .iload 2), (80, .iadd), (81, .iastore), (82, .aload 0), (83, .getfield 578), (86, .getfield 200), (89, .ireturn)], 90) := by rfl
theorem B_Main_sell_0 : mj_bl j_Main_sell 0 = some ([(0, .iload 1), (1, .invokestatic 7603489), (4, .iload 2), (5, .iconst 1), (6, .iconst 999), (9, .invokestatic 7867683), (12, .iload 2), (13, .aload 0), (14, .getfield 578), (17, .getfield 197), (20, .iload 1), (21, .iaload), (22, .if_icmp .gt 29), (25, .iconst 1), (26, .goto 30)], 29) := by rfl
theorem B_Main_sell_29 : mj_bl j_Main_sell 29 = some ([(29, .iconst 0)], 30) := by rfl
theorem B_Main_sell_30 : mj_bl j_Main_sell 30 = some ([(30, .invokestatic 8127777), (33, .aload 0), (34, .invokevirtual 8259872), (37, .aload 0), (38, .getfield 578), (41, .getfield 197), (44, .iload 1), (45, .dup2), (46, .iaload), (47, .iload 2), (48, .isub), (49, .iastore), (50, .aload 0), (51, .getfield 578), (54, .iload 1), (55, .iload 2), (56, .imul), (57, .iconst 2), (58, .idiv), (59, .invokevirtual 33163361), (62, .aload 0), (63, .getfield 578), (66, .getfield 200), (69, .ireturn)], 70) := by rfl
theorem B_Main_take_0 : mj_bl j_Main_take 0 = some ([(0, .aload 0), (1, .iload 1), (2, .invokevirtual 7211297), (5, .iload 2), (6, .iconst 1), (7, .iconst 9), (9, .invokestatic 7867683), (12, .aload 0), (13, .getfield 578), (16, .getfield 195), (19, .getfield 384), (22, .iconst 6), (24, .if_icmp .ge 31), (27, .iconst 1), (28, .goto 32)], 31) := by rfl
theorem B_Main_take_31 : mj_bl j_Main_take 31 = some ([(31, .iconst 0)], 32) := by rfl
theorem B_Main_take_32 : mj_bl j_Main_take 32 = some ([(32, .invokestatic 8127777), (35, .aload 0), (36, .invokevirtual 8259872), (39, .aload 0), (40, .getfield 578), (43, .getfield 195), (46, .iload 1), (47, .iload 2), (48, .invokevirtual 39980226), (51, .aload 0), (52, .getfield 578), (55, .getfield 195), (58, .getfield 384), (61, .iconst 1), (62, .isub), (63, .ireturn)], 64) := by rfl
theorem B_Main_drop_0 : mj_bl j_Main_drop 0 = some ([(0, .aload 0), (1, .iload 1), (2, .invokevirtual 7473441), (5, .aload 0), (6, .getfield 578), (9, .getfield 195), (12, .iload 1), (13, .invokevirtual 40175809), (16, .invokestatic 8127777), (19, .aload 0), (20, .invokevirtual 8259872), (23, .aload 0), (24, .getfield 578), (27, .getfield 195), (30, .iload 1), (31, .invokevirtual 40241345), (34, .return_)], 35) := by rfl
theorem B_Main_drain_0 : mj_bl j_Main_drain 0 = some ([(0, .aload 0), (1, .iload 1), (2, .invokevirtual 7080225), (5, .iload 2), (6, .iconst 0), (7, .iconst 9), (9, .invokestatic 7867683), (12, .aload 0), (13, .invokevirtual 8259872), (16, .aload 0), (17, .getfield 578), (20, .getfield 192), (23, .getfield 68), (26, .iload 1), (27, .iaload), (28, .istore 3), (29, .aload 0), (30, .getfield 578), (33, .getfield 192), (36, .getfield 68), (39, .iload 1), (40, .iload 2), (41, .iastore), (42, .iload 3), (43, .ireturn)], 44) := by rfl
theorem B_Main_hire_0 : mj_bl j_Main_hire 0 = some ([(0, .iload 1), (1, .iconst 1), (2, .iconst 9), (4, .invokestatic 7867683), (7, .iload 2), (8, .iconst 0), (9, .iconst 99), (11, .invokestatic 7867683), (14, .aload 0), (15, .getfield 578), (18, .getfield 194), (21, .getfield 128), (24, .iconst 5), (25, .if_icmp .ge 32), (28, .iconst 1), (29, .goto 33)], 32) := by rfl
theorem B_Main_hire_32 : mj_bl j_Main_hire 32 = some ([(32, .iconst 0)], 33) := by rfl
theorem B_Main_hire_33 : mj_bl j_Main_hire 33 = some ([(33, .invokestatic 8127777), (36, .aload 0), (37, .invokevirtual 8259872), (40, .aload 0), (41, .getfield 578), (44, .getfield 194), (47, .iload 1), (48, .iload 2), (49, .invokevirtual 32771138), (52, .aload 0), (53, .getfield 578), (56, .getfield 194), (59, .getfield 128), (62, .iconst 1), (63, .isub), (64, .ireturn)], 65) := by rfl
theorem B_Main_teach_0 : mj_bl j_Main_teach 0 = some ([(0, .aload 0), (1, .iload 1), (2, .invokevirtual 7342369), (5, .aload 0), (6, .invokevirtual 8259872), (9, .aload 0), (10, .getfield 578), (13, .getfield 194), (16, .getfield 129), (19, .iload 1), (20, .aload 0), (21, .getfield 578), (24, .getfield 194), (27, .getfield 129), (30, .iload 1), (31, .iaload), (32, .iconst 1), (33, .iadd), (34, .iconst 9), (36, .dup_x2), (39, .iastore), (40, .aload 0), (41, .getfield 578), (44, .getfield 194), (47, .getfield 129), (50, .iload 1), (51, .iaload), (52, .ireturn)], 53) := by rfl
theorem B_Main_make_0 : mj_bl j_Main_make 0 = some ([(0, .aload 0), (1, .iload 1), (2, .invokevirtual 7473441), (5, .aload 0), (6, .getfield 578), (9, .iload 1), (10, .invokevirtual 34408545), (13, .invokestatic 8127777), (16, .aload 0), (17, .invokevirtual 8259872), (20, .aload 0), (21, .getfield 578), (24, .iload 1), (25, .iconst 2), (26, .invokevirtual 34476130), (29, .aload 0), (30, .getfield 578), (33, .getfield 200), (36, .ireturn)], 37) := by rfl
theorem B_Main_gain_0 : mj_bl j_Main_gain 0 = some ([(0, .aload 0), (1, .iload 1), (2, .invokevirtual 7080225), (5, .iload 2), (6, .iconst 0), (7, .iconst 6), (9, .invokestatic 7867683), (12, .aload 0), (13, .getfield 578), (16, .getfield 192), (19, .iload 1), (20, .iload 2), (21, .aload 0), (22, .getfield 578), (25, .getfield 192), (28, .iload 1), (29, .iload 2), (30, .invokevirtual 32118818), (33, .invokevirtual 31988771), (36, .ireturn)], 37) := by rfl
theorem B_Main_cuts_0 : mj_bl j_Main_cuts 0 = some ([(0, .aload 0), (1, .iload 1), (2, .invokevirtual 7080225), (5, .iload 2), (6, .iconst 0), (7, .iconst 6), (9, .invokestatic 7867683), (12, .aload 0), (13, .getfield 578), (16, .getfield 192), (19, .iload 1), (20, .iload 2), (21, .invokevirtual 32118818), (24, .ireturn)], 25) := by rfl
theorem B_Main_needTape_0 : mj_bl j_Main_needTape 0 = some ([(0, .iload 0), (1, .ifCond .ne 15), (4, .instanceof 0)], 15) := by rfl
theorem B_Main_needTape_15 : mj_bl j_Main_needTape 15 = some ([(15, .return_)], 16) := by rfl
theorem B_Ways_tryRods_0 : mj_bl j_Ways_tryRods 0 = some ([(0, .aload 0), (1, .getfield 517), (4, .iconst (-1)), (5, .if_icmp .eq 17), (8, .iload 2), (9, .aload 0), (10, .getfield 517), (13, .if_icmp .lt 17), (16, .return_)], 17) := by rfl
theorem B_Ways_tryRods_17 : mj_bl j_Ways_tryRods 17 = some ([(17, .iload 1), (18, .aload 0), (19, .getfield 512), (22, .if_icmp .ge 31), (25, .iload 1), (26, .iconst 8), (28, .if_icmp .lt 37)], 31) := by rfl
theorem B_Ways_tryRods_31 : mj_bl j_Ways_tryRods 31 = some ([(31, .aload 0), (32, .iload 2), (33, .invokevirtual 42993921), (36, .return_)], 37) := by rfl
theorem B_Ways_tryRods_37 : mj_bl j_Ways_tryRods 37 = some ([(37, .aload 0), (38, .getfield 513), (41, .iload 1), (42, .iaload), (43, .istore 4), (45, .iconst 0), (46, .istore 5)], 48) := by rfl
theorem B_Ways_tryRods_48 : mj_bl j_Ways_tryRods 48 = some ([(48, .iload 5), (50, .iload 2), (51, .if_icmp .gt 129), (54, .iload 5), (56, .iconst 8), (58, .if_icmp .ge 129), (61, .aload 0), (62, .getfield 516), (65, .iload 5), (67, .iaload), (68, .iload 4), (70, .iadd), (71, .iload 3), (72, .if_icmp .gt 123), (75, .aload 0), (76, .getfield 516), (79, .iload 5), (81, .dup2), (82, .iaload), (83, .iload 4), (85, .iadd), (86, .iastore), (87, .aload 0), (88, .getfield 515), (91, .iload 1), (92, .iload 5), (94, .iastore), (95, .aload 0), (96, .iload 1), (97, .iconst 1), (98, .iadd), (99, .iload 2), (100, .iload 5), (102, .iconst 1), (103, .iadd), (104, .dup_x1), (107, .iload 3), (108, .invokestatic 43260164), (111, .aload 0), (112, .getfield 516), (115, .iload 5), (117, .dup2), (118, .iaload), (119, .iload 4), (121, .isub), (122, .iastore)], 123) := by rfl
theorem B_Ways_tryRods_123 : mj_bl j_Ways_tryRods 123 = some ([(123, .iinc 5 (1)), (126, .goto 48)], 129) := by rfl
theorem B_Ways_tryRods_129 : mj_bl j_Ways_tryRods 129 = some ([(129, .return_)], 130) := by rfl
theorem B_Ways_fewestRods_0 : mj_bl j_Ways_fewestRods 0 = some ([(0, .aload 0), (1, .invokevirtual 42862848), (4, .aload 0), (5, .iconst 0), (6, .iconst 0), (7, .iconst 12), (9, .iload 1), (10, .imul), (11, .invokestatic 43260164), (14, .aload 0), (15, .getfield 517), (18, .ireturn)], 19) := by rfl
theorem B_Main_pieces_0 : mj_bl j_Main_pieces 0 = some ([(0, .aload 0), (1, .getfield 577), (4, .aload 0), (5, .getfield 576), (8, .invokevirtual 42537217), (11, .istore 2), (12, .iload 1), (13, .invokestatic 7603489), (16, .iload 2), (17, .invokestatic 7996705), (20, .aload 0), (21, .getfield 577), (24, .iload 1), (25, .invokevirtual 43124993), (28, .ireturn)], 29) := by rfl
theorem B_Main_rod_0 : mj_bl j_Main_rod 0 = some ([(0, .aload 0), (1, .getfield 577), (4, .aload 0), (5, .getfield 576), (8, .invokevirtual 42537217), (11, .istore 3), (12, .iload 1), (13, .invokestatic 7603489), (16, .iload 3), (17, .invokestatic 7996705), (20, .aload 0), (21, .getfield 577), (24, .iload 1), (25, .invokevirtual 43124993), (28, .iconst (-1)), (29, .if_icmp .eq 47), (32, .iload 2), (33, .ifCond .lt 47), (36, .iload 2), (37, .aload 0), (38, .getfield 577), (41, .getfield 512), (44, .if_icmp .lt 49)], 47) := by rfl
theorem B_Main_rod_47 : mj_bl j_Main_rod 47 = some ([(47, .iconst (-1)), (48, .ireturn)], 49) := by rfl
theorem B_Main_rod_49 : mj_bl j_Main_rod 49 = some ([(49, .aload 0), (50, .getfield 577), (53, .getfield 514), (56, .iload 2), (57, .iaload), (58, .ireturn)], 59) := by rfl
theorem B_Main_found_0 : mj_bl j_Main_found 0 = some ([(0, .aload 0), (1, .getfield 577), (4, .aload 0), (5, .getfield 576), (8, .invokevirtual 42668289), (11, .invokestatic 7996705), (14, .aload 0), (15, .getfield 577), (18, .invokevirtual 43913472), (21, .iload 1), (22, .ifCond .ne 33), (25, .aload 0), (26, .getfield 577), (29, .getfield 518), (32, .ireturn)], 33) := by rfl
theorem B_Main_found_33 : mj_bl j_Main_found 33 = some ([(33, .aload 0), (34, .getfield 577), (37, .getfield 518), (40, .ifCond .le 55), (43, .aload 0), (44, .getfield 577), (47, .getfield 519), (50, .iconst 0), (51, .iaload), (52, .goto 56)], 55) := by rfl
theorem B_Main_found_55 : mj_bl j_Main_found 55 = some ([(55, .iconst (-1))], 56) := by rfl
theorem B_Main_found_56 : mj_bl j_Main_found 56 = some ([(56, .ireturn)], 57) := by rfl
theorem B_Main_look_0 : mj_bl j_Main_look 0 = some ([(0, .aload 0), (1, .getfield 577), (4, .aload 0), (5, .getfield 576), (8, .invokevirtual 42668289), (11, .invokestatic 7996705), (14, .aload 0), (15, .getfield 577), (18, .invokevirtual 43913472), (21, .aload 0), (22, .getfield 577), (25, .invokevirtual 44307712), (28, .ireturn)], 29) := by rfl
theorem B_Ways_tryTeam_0 : mj_bl j_Ways_tryTeam 0 = some ([(0, .iload 2), (1, .aload 1), (2, .getfield 194), (5, .getfield 128), (8, .if_icmp .lt 27), (11, .iload 4), (13, .aload 0), (14, .getfield 517), (17, .if_icmp .le 26), (20, .aload 0), (21, .iload 4), (23, .invokevirtual 42993921)], 26) := by rfl
theorem B_Ways_tryTeam_26 : mj_bl j_Ways_tryTeam 26 = some ([(26, .return_)], 27) := by rfl
theorem B_Ways_tryTeam_27 : mj_bl j_Ways_tryTeam 27 = some ([(27, .aload 0), (28, .getfield 515), (31, .iload 2), (32, .iconst (-1)), (33, .iastore), (34, .aload 0), (35, .aload 1), (36, .iload 2), (37, .iconst 1), (38, .iadd), (39, .iload 3), (40, .iload 4), (42, .invokestatic 43523333), (45, .iconst 0), (46, .istore 5)], 48) := by rfl
theorem B_Ways_tryTeam_48 : mj_bl j_Ways_tryTeam 48 = some ([(48, .iload 5), (50, .aload 1), (51, .getfield 195), (54, .getfield 384), (57, .if_icmp .ge 135), (60, .iload 3), (61, .iload 5), (63, .ishr), (64, .iconst 1), (65, .iand), (66, .iconst 1), (67, .if_icmp .ne 129), (70, .aload 1), (71, .getfield 193), (74, .getfield 4), (77, .aload 1), (78, .getfield 195), (81, .getfield 386), (84, .iload 5), (86, .iaload), (87, .iaload), (88, .istore 6), (90, .aload 0), (91, .getfield 515), (94, .iload 2), (95, .iload 5), (97, .iastore), (98, .aload 0), (99, .aload 1), (100, .iload 2), (101, .iconst 1), (102, .iadd), (103, .iload 3), (104, .iconst 1), (105, .iload 5), (107, .ishl), (108, .iconst (-1)), (109, .ixor), (110, .iand), (111, .iload 4), (113, .aload 1), (114, .getfield 194), (117, .getfield 129), (120, .iload 2), (121, .iaload), (122, .iload 6), (124, .imul), (125, .iadd), (126, .invokestatic 43523333)], 129) := by rfl
theorem B_Ways_tryTeam_129 : mj_bl j_Ways_tryTeam 129 = some ([(129, .iinc 5 (1)), (132, .goto 48)], 135) := by rfl
theorem B_Ways_tryTeam_135 : mj_bl j_Ways_tryTeam 135 = some ([(135, .return_)], 136) := by rfl
theorem B_Ways_bestTeam_0 : mj_bl j_Ways_bestTeam 0 = some ([(0, .aload 0), (1, .invokevirtual 42862848), (4, .aload 0), (5, .aload 1), (6, .iconst 0), (7, .aload 1), (8, .getfield 195), (11, .getfield 385), (14, .iconst 0), (15, .invokestatic 43523333), (18, .aload 0), (19, .getfield 517), (22, .ireturn)], 23) := by rfl
theorem B_Main_team_0 : mj_bl j_Main_team 0 = some ([(0, .iload 1), (1, .iconst (-1)), (2, .if_icmp .eq 10), (5, .aload 0), (6, .iload 1), (7, .invokevirtual 7342369)], 10) := by rfl
theorem B_Main_team_10 : mj_bl j_Main_team 10 = some ([(10, .aload 0), (11, .getfield 577), (14, .aload 0), (15, .getfield 578), (18, .invokevirtual 43387137), (21, .istore 2), (22, .iload 1), (23, .iconst (-1)), (24, .if_icmp .ne 31), (27, .iload 2), (28, .goto 40)], 31) := by rfl
theorem B_Main_team_31 : mj_bl j_Main_team 31 = some ([(31, .aload 0), (32, .getfield 577), (35, .getfield 514), (38, .iload 1), (39, .iaload)], 40) := by rfl
theorem B_Main_team_40 : mj_bl j_Main_team 40 = some ([(40, .ireturn)], 41) := by rfl
theorem B_Ways_tryPairs_0 : mj_bl j_Ways_tryPairs 0 = some ([(0, .iload 2), (1, .aload 1), (2, .getfield 64), (5, .if_icmp .lt 22), (8, .iload 3), (9, .aload 0), (10, .getfield 517), (13, .if_icmp .le 21), (16, .aload 0), (17, .iload 3), (18, .invokevirtual 42993921)], 21) := by rfl
theorem B_Ways_tryPairs_21 : mj_bl j_Ways_tryPairs 21 = some ([(21, .return_)], 22) := by rfl
theorem B_Ways_tryPairs_22 : mj_bl j_Ways_tryPairs 22 = some ([(22, .aload 0), (23, .aload 1), (24, .iload 2), (25, .iconst 1), (26, .iadd), (27, .iload 3), (28, .invokestatic 43783428), (31, .aload 0), (32, .getfield 515), (35, .iload 2), (36, .iaload), (37, .iconst (-1)), (38, .if_icmp .eq 42), (41, .return_)], 42) := by rfl
theorem B_Ways_tryPairs_42 : mj_bl j_Ways_tryPairs 42 = some ([(42, .iload 2), (43, .iconst 1), (44, .iadd), (45, .istore 4)], 47) := by rfl
theorem B_Ways_tryPairs_47 : mj_bl j_Ways_tryPairs 47 = some ([(47, .iload 4), (49, .aload 1), (50, .getfield 64), (53, .if_icmp .ge 144), (56, .aload 0), (57, .getfield 515), (60, .iload 4), (62, .iaload), (63, .iconst (-1)), (64, .if_icmp .ne 138), (67, .aload 1), (68, .getfield 65), (71, .iload 2), (72, .iaload), (73, .aload 1), (74, .getfield 65), (77, .iload 4), (79, .iaload), (80, .if_icmp .eq 138), (83, .aload 0), (84, .getfield 515), (87, .iload 2), (88, .iload 4), (90, .iastore), (91, .aload 0), (92, .getfield 515), (95, .iload 4), (97, .iload 2), (98, .iastore), (99, .aload 0), (100, .aload 1), (101, .iload 2), (102, .iconst 1), (103, .iadd), (104, .iload 3), (105, .aload 1), (106, .getfield 67), (109, .iload 2), (110, .iaload), (111, .iadd), (112, .aload 1), (113, .getfield 67), (116, .iload 4), (118, .iaload), (119, .iadd), (120, .invokestatic 43783428), (123, .aload 0), (124, .getfield 515), (127, .iload 2), (128, .iconst (-1)), (129, .iastore), (130, .aload 0), (131, .getfield 515), (134, .iload 4), (136, .iconst (-1)), (137, .iastore)], 138) := by rfl
theorem B_Ways_tryPairs_138 : mj_bl j_Ways_tryPairs 138 = some ([(138, .iinc 4 (1)), (141, .goto 47)], 144) := by rfl
theorem B_Ways_tryPairs_144 : mj_bl j_Ways_tryPairs 144 = some ([(144, .return_)], 145) := by rfl
theorem B_Ways_bestPairs_0 : mj_bl j_Ways_bestPairs 0 = some ([(0, .aload 0), (1, .invokevirtual 42862848), (4, .aload 0), (5, .aload 1), (6, .iconst 0), (7, .iconst 0), (8, .invokestatic 43783428), (11, .aload 0), (12, .getfield 517), (15, .ireturn)], 16) := by rfl
theorem B_Main_pairs_0 : mj_bl j_Main_pairs 0 = some ([(0, .iload 1), (1, .iconst (-1)), (2, .if_icmp .eq 10), (5, .aload 0), (6, .iload 1), (7, .invokevirtual 7080225)], 10) := by rfl
theorem B_Main_pairs_10 : mj_bl j_Main_pairs 10 = some ([(10, .aload 0), (11, .getfield 577), (14, .aload 0), (15, .getfield 578), (18, .getfield 192), (21, .invokevirtual 43649281), (24, .istore 2), (25, .iload 1), (26, .iconst (-1)), (27, .if_icmp .ne 34), (30, .iload 2), (31, .goto 43)], 34) := by rfl
theorem B_Main_pairs_34 : mj_bl j_Main_pairs 34 = some ([(34, .aload 0), (35, .getfield 577), (38, .getfield 514), (41, .iload 1), (42, .iaload)], 43) := by rfl
theorem B_Main_pairs_43 : mj_bl j_Main_pairs 43 = some ([(43, .ireturn)], 44) := by rfl
theorem B_Main_change_0 : mj_bl j_Main_change 0 = some ([(0, .aload 0), (1, .iload 1), (2, .invokevirtual 7211297), (5, .aload 0), (6, .iload 2), (7, .invokevirtual 7211297), (10, .aload 0), (11, .getfield 577), (14, .aload 0), (15, .getfield 578), (18, .getfield 193), (21, .iload 1), (22, .iload 2), (23, .invokevirtual 44574979), (26, .ireturn)], 27) := by rfl
theorem B_Main_share_0 : mj_bl j_Main_share 0 = some ([(0, .aload 0), (1, .iload 1), (2, .invokevirtual 7342369), (5, .iload 2), (6, .iconst 0), (7, .iconst 99), (9, .invokestatic 7867683), (12, .aload 0), (13, .getfield 577), (16, .aload 0), (17, .getfield 578), (20, .getfield 194), (23, .iload 2), (24, .invokevirtual 44832002), (27, .aload 0), (28, .getfield 577), (31, .getfield 516), (34, .iload 1), (35, .iaload), (36, .ireturn)], 37) := by rfl
theorem B_Main_price_0 : mj_bl j_Main_price 0 = some ([(0, .iload 1), (1, .invokestatic 7603489), (4, .aload 0), (5, .getfield 578), (8, .getfield 193), (11, .iload 1), (12, .invokevirtual 30939137), (15, .ireturn)], 16) := by rfl
theorem B_Main_rests_0 : mj_bl j_Main_rests 0 = some ([(0, .aload 0), (1, .iload 1), (2, .invokevirtual 7080225), (5, .aload 0), (6, .getfield 579), (9, .aload 0), (10, .getfield 578), (13, .iload 1), (14, .invokevirtual 36704386), (17, .istore 2), (18, .iconst 0), (19, .aload 0), (20, .getfield 578), (23, .getfield 192), (26, .getfield 68), (29, .iload 1), (30, .iaload), (31, .isub), (32, .istore 3), (33, .aload 0), (34, .getfield 578), (37, .getfield 192), (40, .getfield 66), (43, .iload 1), (44, .iaload), (45, .istore 4), (47, .iconst 0), (48, .iload 2), (49, .iload 3), (50, .iconst 1), (51, .iconst 0), (52, .invokestatic 8394021), (55, .iconst 1), (56, .iload 2), (57, .iconst 2), (58, .iadd), (59, .iload 4), (61, .iconst 0), (62, .iconst 1), (63, .invokestatic 8394021), (66, .ior), (67, .iconst 2), (68, .iload 3), (69, .iload 2), (70, .iconst 3), (71, .iconst 2), (72, .invokestatic 8394021), (75, .ior), (76, .iconst 3), (77, .iload 4), (79, .iload 2), (80, .iconst 2), (81, .iadd), (82, .iconst 2), (83, .iconst 3), (84, .invokestatic 8394021), (87, .ior), (88, .ireturn)], 89) := by rfl
theorem B_Main_odds_0 : mj_bl j_Main_odds 0 = some ([(0, .iload 1), (1, .iconst 0), (2, .iconst 5), (3, .invokestatic 7867683), (6, .iload 2), (7, .iconst 0), (8, .iconst 5), (9, .invokestatic 7867683), (12, .ldc2_w 0), (13, .lstore 3), (14, .iconst 0), (15, .istore 5)], 17) := by rfl
theorem B_Main_odds_17 : mj_bl j_Main_odds 17 = some ([(17, .iload 5), (19, .iconst 1), (20, .iload 1), (21, .ishl), (22, .if_icmp .ge 50), (25, .iload 5), (27, .invokestatic 50464193), (30, .iload 2), (31, .if_icmp .lt 44), (34, .lload 3), (35, .aload 0), (36, .iload 5), (38, .iload 1), (39, .invokevirtual 8526114), (42, .ladd), (43, .lstore 3)], 44) := by rfl
theorem B_Main_odds_44 : mj_bl j_Main_odds 44 = some ([(44, .iinc 5 (1)), (47, .goto 17)], 50) := by rfl
theorem B_Main_odds_50 : mj_bl j_Main_odds 50 = some ([(50, .ldc2_w 1), (51, .lstore 5), (53, .iconst 0), (54, .istore 7)], 56) := by rfl
theorem B_Main_odds_56 : mj_bl j_Main_odds 56 = some ([(56, .iload 7), (58, .iload 1), (59, .if_icmp .ge 76), (62, .lload 5), (64, .ldc2_w 100), (67, .lmul), (68, .lstore 5), (70, .iinc 7 (1)), (73, .goto 56)], 76) := by rfl
theorem B_Main_odds_76 : mj_bl j_Main_odds 76 = some ([(76, .lload 3), (77, .ldc2_w 10000), (80, .lmul), (81, .lload 5), (83, .ldiv), (84, .l2i), (85, .ireturn)], 86) := by rfl
theorem B_Main_most_0 : mj_bl j_Main_most 0 = some ([(0, .iload 1), (1, .tableswitch 100 0 2 #[28, 52, 76])], 28) := by rfl
theorem B_Main_most_28 : mj_bl j_Main_most 28 = some ([(28, .aload 0), (29, .getfield 578), (32, .getfield 192), (35, .getfield 66), (38, .aload 0), (39, .getfield 578), (42, .getfield 192), (45, .getfield 64), (48, .invokestatic 8655138), (51, .ireturn)], 52) := by rfl
theorem B_Main_most_52 : mj_bl j_Main_most 52 = some ([(52, .aload 0), (53, .getfield 578), (56, .getfield 193), (59, .getfield 4), (62, .aload 0), (63, .getfield 578), (66, .getfield 193), (69, .getfield 0), (72, .invokestatic 8655138), (75, .ireturn)], 76) := by rfl
theorem B_Main_most_76 : mj_bl j_Main_most 76 = some ([(76, .aload 0), (77, .getfield 578), (80, .getfield 194), (83, .getfield 129), (86, .aload 0), (87, .getfield 578), (90, .getfield 194), (93, .getfield 128), (96, .invokestatic 8655138), (99, .ireturn)], 100) := by rfl
theorem B_Main_most_100 : mj_bl j_Main_most 100 = some ([(100, .instanceof 2)], 110) := by rfl
theorem B_Main_sort_0 : mj_bl j_Main_sort 0 = some ([(0, .iload 1), (1, .iconst 0), (2, .iconst 2), (3, .invokestatic 7736611), (6, .aload 0), (7, .getfield 578), (10, .getfield 192), (13, .iload 1), (14, .invokevirtual 32378913), (17, .ireturn)], 18) := by rfl
theorem B_Main_ahead_0 : mj_bl j_Main_ahead 0 = some ([(0, .aload 0), (1, .iload 1), (2, .invokevirtual 7080225), (5, .iload 2), (6, .iconst 0), (7, .iconst 60), (9, .invokestatic 7867683), (12, .iload 3), (13, .ifCond .eq 31), (16, .aload 0), (17, .getfield 578), (20, .getfield 192), (23, .iload 1), (24, .iload 2), (25, .invokevirtual 31724578), (28, .goto 50)], 31) := by rfl
theorem B_Main_ahead_31 : mj_bl j_Main_ahead 31 = some ([(31, .aload 0), (32, .getfield 578), (35, .getfield 192), (38, .getfield 66), (41, .iload 1), (42, .iaload), (43, .iload 2), (44, .iadd), (45, .iconst 9), (47, .dup_x2)], 50) := by rfl
theorem B_Main_ahead_50 : mj_bl j_Main_ahead 50 = some ([(50, .ireturn)], 51) := by rfl
theorem B_Main_trial_0 : mj_bl j_Main_trial 0 = some ([(0, .iload 1), (1, .iconst 0), (2, .iconst 60), (4, .invokestatic 7867683), (7, .aload 0), (8, .getfield 580), (11, .aload 0), (12, .getfield 578), (15, .invokevirtual 33032289), (18, .aload 0), (19, .getfield 580), (22, .iload 1), (23, .invokevirtual 33296481), (26, .pop), (27, .iload 2), (28, .ifCond .eq 44), (31, .aload 0), (32, .getfield 580), (35, .getfield 195), (38, .getfield 385), (41, .goto 51)], 44) := by rfl
theorem B_Main_trial_44 : mj_bl j_Main_trial 44 = some ([(44, .aload 0), (45, .getfield 580), (48, .getfield 200)], 51) := by rfl
theorem B_Main_trial_51 : mj_bl j_Main_trial 51 = some ([(51, .ireturn)], 52) := by rfl
theorem B_Main_span_0 : mj_bl j_Main_span 0 = some ([(0, .iload 1), (1, .iconst 0), (2, .iconst 60), (4, .invokestatic 7867683), (7, .iconst (-1)), (8, .istore 3), (9, .iconst 1), (10, .istore 4)], 12) := by rfl
theorem B_Main_span_12 : mj_bl j_Main_span 12 = some ([(12, .iload 4), (14, .iconst 6), (16, .if_icmp .gt 96), (19, .aload 0), (20, .getfield 580), (23, .aload 0), (24, .getfield 578), (27, .invokevirtual 33032289), (30, .aload 0), (31, .getfield 580), (34, .iload 4), (36, .putfield 202), (39, .aload 0), (40, .getfield 580), (43, .iload 1), (44, .invokevirtual 33296481), (47, .pop), (48, .iload 3), (49, .iconst (-1)), (50, .if_icmp .eq 82), (53, .iload 2), (54, .ifCond .eq 71), (57, .aload 0), (58, .getfield 580), (61, .getfield 200), (64, .iload 3), (65, .if_icmp .le 90), (68, .goto 82)], 71) := by rfl
theorem B_Main_span_71 : mj_bl j_Main_span 71 = some ([(71, .aload 0), (72, .getfield 580), (75, .getfield 200), (78, .iload 3), (79, .if_icmp .ge 90)], 82) := by rfl
theorem B_Main_span_82 : mj_bl j_Main_span 82 = some ([(82, .aload 0), (83, .getfield 580), (86, .getfield 200), (89, .istore 3)], 90) := by rfl
theorem B_Main_span_90 : mj_bl j_Main_span 90 = some ([(90, .iinc 4 (1)), (93, .goto 12)], 96) := by rfl
theorem B_Main_span_96 : mj_bl j_Main_span 96 = some ([(96, .iload 3), (97, .ireturn)], 98) := by rfl
theorem B_Main_led_0 : mj_bl j_Main_led 0 = some ([(0, .aload 0), (1, .iload 1), (2, .invokevirtual 7080225), (5, .iload 2), (6, .ifCond .eq 23), (9, .aload 0), (10, .getfield 578), (13, .getfield 196), (16, .iload 1), (17, .invokevirtual 39586977), (20, .goto 34)], 23) := by rfl
theorem B_Main_led_23 : mj_bl j_Main_led 23 = some ([(23, .aload 0), (24, .getfield 578), (27, .getfield 196), (30, .iload 1), (31, .invokevirtual 39456929)], 34) := by rfl
theorem B_Main_led_34 : mj_bl j_Main_led 34 = some ([(34, .ireturn)], 35) := by rfl
theorem B_Main_log_0 : mj_bl j_Main_log 0 = some ([(0, .iload 2), (1, .ifCond .lt 9), (4, .iload 2), (5, .iconst 4), (6, .if_icmp .lt 19)], 9) := by rfl
theorem B_Main_log_9 : mj_bl j_Main_log 9 = some ([(9, .instanceof 2)], 19) := by rfl
theorem B_Main_log_19 : mj_bl j_Main_log 19 = some ([(19, .aload 0), (20, .getfield 578), (23, .getfield 196), (26, .iload 1), (27, .iload 2), (28, .invokevirtual 39193762), (31, .ireturn)], 32) := by rfl
theorem B_Mod_some_0 : mj_bl j_Mod_some 0 = some ([(0, .aload 0), (1, .invokevirtual 15142208), (4, .istore 1)], 5) := by rfl
theorem B_Mod_some_5 : mj_bl j_Mod_some 5 = some ([(5, .aload 0), (6, .getfield 652), (9, .iconst (-1)), (10, .if_icmp .ne 44), (13, .aload 0), (14, .ldc 27), (16, .invokevirtual 11735361), (19, .ifCond .eq 44), (22, .aload 0), (23, .invokevirtual 15142208), (26, .istore 2), (27, .iload 1), (28, .ifCond .ne 35), (31, .iload 2), (32, .ifCond .eq 39)], 35) := by rfl
theorem B_Mod_some_35 : mj_bl j_Mod_some 35 = some ([(35, .iconst 1), (36, .goto 40)], 39) := by rfl
theorem B_Mod_some_39 : mj_bl j_Mod_some 39 = some ([(39, .iconst 0)], 40) := by rfl
theorem B_Mod_some_40 : mj_bl j_Mod_some 40 = some ([(40, .istore 1), (41, .goto 5)], 44) := by rfl
theorem B_Mod_some_44 : mj_bl j_Mod_some 44 = some ([(44, .iload 1), (45, .ireturn)], 46) := by rfl
theorem B_Mod_every_0 : mj_bl j_Mod_every 0 = some ([(0, .aload 0), (1, .invokevirtual 15012160), (4, .istore 1)], 5) := by rfl
theorem B_Mod_every_5 : mj_bl j_Mod_every 5 = some ([(5, .aload 0), (6, .getfield 652), (9, .iconst (-1)), (10, .if_icmp .ne 44), (13, .aload 0), (14, .ldc 26), (16, .invokevirtual 11735361), (19, .ifCond .eq 44), (22, .aload 0), (23, .invokevirtual 15012160), (26, .istore 2), (27, .iload 1), (28, .ifCond .eq 39), (31, .iload 2), (32, .ifCond .eq 39), (35, .iconst 1), (36, .goto 40)], 39) := by rfl
theorem B_Mod_every_39 : mj_bl j_Mod_every 39 = some ([(39, .iconst 0)], 40) := by rfl
theorem B_Mod_every_40 : mj_bl j_Mod_every 40 = some ([(40, .istore 1), (41, .goto 5)], 44) := by rfl
theorem B_Mod_every_44 : mj_bl j_Mod_every 44 = some ([(44, .iload 1), (45, .ireturn)], 46) := by rfl
theorem B_Mod_atom_0 : mj_bl j_Mod_atom 0 = some ([(0, .aload 0), (1, .getfield 652), (4, .iconst (-1)), (5, .if_icmp .eq 10), (8, .iconst 0), (9, .ireturn)], 10) := by rfl
theorem B_Mod_atom_10 : mj_bl j_Mod_atom 10 = some ([(10, .aload 0), (11, .invokevirtual 11928896), (14, .istore 1), (15, .aload 0), (16, .ldc 25), (18, .invokevirtual 11735361), (21, .istore 2), (22, .iload 2), (23, .ifCond .ne 40), (26, .aload 0), (27, .iconst 40), (29, .invokevirtual 11602241), (32, .ifCond .ne 40), (35, .aload 0), (36, .invokevirtual 14881088), (39, .ireturn)], 40) := by rfl
theorem B_Mod_atom_40 : mj_bl j_Mod_atom 40 = some ([(40, .aload 0), (41, .getfield 653), (44, .iconst 6), (46, .if_icmp .ne 56), (49, .aload 0), (50, .iload 1), (51, .invokevirtual 11798849), (54, .iconst 0), (55, .ireturn)], 56) := by rfl
theorem B_Mod_atom_56 : mj_bl j_Mod_atom 56 = some ([(56, .aload 0), (57, .dup), (58, .getfield 653), (61, .iconst 1), (62, .iadd), (63, .putfield 653), (66, .iconst 0), (67, .istore 3), (68, .iload 2), (69, .ifCond .eq 88), (72, .aload 0), (73, .invokevirtual 15012160), (76, .ifCond .ne 83), (79, .iconst 1), (80, .goto 84)], 83) := by rfl
theorem B_Mod_atom_83 : mj_bl j_Mod_atom 83 = some ([(83, .iconst 0)], 84) := by rfl
theorem B_Mod_atom_84 : mj_bl j_Mod_atom 84 = some ([(84, .istore 3), (85, .goto 138)], 88) := by rfl
theorem B_Mod_atom_88 : mj_bl j_Mod_atom 88 = some ([(88, .aload 0), (89, .dup), (90, .getfield 651), (93, .iconst 1), (94, .iadd), (95, .putfield 651), (98, .aload 0), (99, .invokevirtual 15273280), (102, .istore 3), (103, .aload 0), (104, .getfield 652), (107, .iconst (-1)), (108, .if_icmp .ne 128), (111, .aload 0), (112, .iconst 41), (114, .invokevirtual 11602241), (117, .ifCond .ne 128), (120, .aload 0), (121, .aload 0), (122, .getfield 651), (125, .invokevirtual 11798849)], 128) := by rfl
theorem B_Mod_atom_128 : mj_bl j_Mod_atom 128 = some ([(128, .aload 0), (129, .dup), (130, .getfield 651), (133, .iconst 1), (134, .iadd), (135, .putfield 651)], 138) := by rfl
theorem B_Mod_atom_138 : mj_bl j_Mod_atom 138 = some ([(138, .aload 0), (139, .dup), (140, .getfield 653), (143, .iconst 1), (144, .isub), (145, .putfield 653), (148, .iload 3), (149, .ireturn)], 150) := by rfl
theorem B_Mod_lawLine_0 : mj_bl j_Mod_lawLine 0 = some ([(0, .aload 0), (1, .ldc 28), (3, .invokevirtual 11735361), (6, .ifCond .eq 13), (9, .iconst 0), (10, .goto 40)], 13) := by rfl
theorem B_Mod_lawLine_13 : mj_bl j_Mod_lawLine 13 = some ([(13, .aload 0), (14, .ldc 29), (16, .invokevirtual 11735361), (19, .ifCond .eq 26), (22, .iconst 1), (23, .goto 40)], 26) := by rfl
theorem B_Mod_lawLine_26 : mj_bl j_Mod_lawLine 26 = some ([(26, .aload 0), (27, .ldc 30), (29, .invokevirtual 11735361), (32, .ifCond .eq 39), (35, .iconst 2), (36, .goto 40)], 39) := by rfl
theorem B_Mod_lawLine_39 : mj_bl j_Mod_lawLine 39 = some ([(39, .iconst (-1))], 40) := by rfl
theorem B_Mod_lawLine_40 : mj_bl j_Mod_lawLine 40 = some ([(40, .istore 1), (41, .iload 1), (42, .iconst (-1)), (43, .if_icmp .ne 55), (46, .aload 0), (47, .aload 0), (48, .getfield 651), (51, .invokevirtual 11798849), (54, .return_)], 55) := by rfl
theorem B_Mod_lawLine_55 : mj_bl j_Mod_lawLine 55 = some ([(55, .aload 0), (56, .iconst 0), (57, .iconst 99), (59, .invokevirtual 12064066), (62, .istore 2), (63, .aload 0), (64, .getfield 652), (67, .iconst (-1)), (68, .if_icmp .eq 72), (71, .return_)], 72) := by rfl
theorem B_Mod_lawLine_72 : mj_bl j_Mod_lawLine 72 = some ([(72, .aload 0), (73, .ldc 31), (76, .invokevirtual 11735361), (79, .ifCond .eq 89), (82, .aload 0), (83, .invokevirtual 15273280), (86, .ifCond .eq 93)], 89) := by rfl
theorem B_Mod_lawLine_89 : mj_bl j_Mod_lawLine 89 = some ([(89, .iconst 1), (90, .goto 94)], 93) := by rfl
theorem B_Mod_lawLine_93 : mj_bl j_Mod_lawLine 93 = some ([(93, .iconst 0)], 94) := by rfl
theorem B_Mod_lawLine_94 : mj_bl j_Mod_lawLine 94 = some ([(94, .istore 3), (95, .aload 0), (96, .getfield 652), (99, .iconst (-1)), (100, .if_icmp .ne 107), (103, .iload 3), (104, .ifCond .ne 108)], 107) := by rfl
theorem B_Mod_lawLine_107 : mj_bl j_Mod_lawLine 107 = some ([(107, .return_)], 108) := by rfl
theorem B_Mod_lawLine_108 : mj_bl j_Mod_lawLine 108 = some ([(108, .aload 0), (109, .dup), (110, .getfield 655), (113, .iload 1), (114, .ifCond .ne 121), (117, .iload 2), (118, .goto 132)], 121) := by rfl
theorem B_Mod_lawLine_121 : mj_bl j_Mod_lawLine 121 = some ([(121, .iload 1), (122, .iconst 1), (123, .if_icmp .ne 131), (126, .iload 2), (127, .ineg), (128, .goto 132)], 131) := by rfl
theorem B_Mod_lawLine_131 : mj_bl j_Mod_lawLine 131 = some ([(131, .iconst 0)], 132) := by rfl
theorem B_Mod_lawLine_132 : mj_bl j_Mod_lawLine 132 = some ([(132, .iadd), (133, .putfield 655), (136, .aload 0), (137, .dup), (138, .getfield 656), (141, .iload 1), (142, .iconst 2), (143, .if_icmp .ne 150), (146, .iload 2), (147, .goto 151)], 150) := by rfl
theorem B_Mod_lawLine_150 : mj_bl j_Mod_lawLine 150 = some ([(150, .iconst 0)], 151) := by rfl
theorem B_Mod_lawLine_151 : mj_bl j_Mod_lawLine 151 = some ([(151, .iadd), (152, .putfield 656), (155, .return_)], 156) := by rfl
theorem B_Mod_read_0 : mj_bl j_Mod_read 0 = some ([(0, .aload 0), (1, .invokevirtual 11404608), (4, .aload 0), (5, .getfield 651), (8, .aload 0), (9, .getfield 650), (12, .if_icmp .ge 19), (15, .iconst 1), (16, .goto 20)], 19) := by rfl
theorem B_Mod_read_19 : mj_bl j_Mod_read 19 = some ([(19, .iconst 0)], 20) := by rfl
theorem B_Mod_read_20 : mj_bl j_Mod_read 20 = some ([(20, .istore 2), (21, .iconst 0), (22, .istore 3)], 23) := by rfl
theorem B_Mod_read_23 : mj_bl j_Mod_read 23 = some ([(23, .iload 2), (24, .ifCond .eq 144), (27, .aload 0), (28, .getfield 652), (31, .iconst (-1)), (32, .if_icmp .ne 144), (35, .aload 0), (36, .invokevirtual 11404608), (39, .iload 3), (40, .iload 1), (41, .ifCond .eq 49), (44, .iconst 12), (46, .goto 51)], 49) := by rfl
theorem B_Mod_read_49 : mj_bl j_Mod_read 49 = some ([(49, .iconst 14)], 51) := by rfl
theorem B_Mod_read_51 : mj_bl j_Mod_read 51 = some ([(51, .if_icmp .ne 65), (54, .aload 0), (55, .aload 0), (56, .getfield 651), (59, .invokevirtual 11798849), (62, .goto 80)], 65) := by rfl
theorem B_Mod_read_65 : mj_bl j_Mod_read 65 = some ([(65, .iload 1), (66, .ifCond .eq 76), (69, .aload 0), (70, .invokevirtual 15339840), (73, .goto 80)], 76) := by rfl
theorem B_Mod_read_76 : mj_bl j_Mod_read 76 = some ([(76, .aload 0), (77, .invokevirtual 13764928)], 80) := by rfl
theorem B_Mod_read_80 : mj_bl j_Mod_read 80 = some ([(80, .iinc 3 (1)), (83, .aload 0), (84, .invokevirtual 11404608), (87, .aload 0), (88, .getfield 652), (91, .iconst (-1)), (92, .if_icmp .ne 106), (95, .aload 0), (96, .getfield 651), (99, .aload 0), (100, .getfield 650), (103, .if_icmp .ne 111)], 106) := by rfl
theorem B_Mod_read_106 : mj_bl j_Mod_read 106 = some ([(106, .iconst 0), (107, .istore 2), (108, .goto 23)], 111) := by rfl
theorem B_Mod_read_111 : mj_bl j_Mod_read 111 = some ([(111, .aload 0), (112, .iconst 59), (114, .invokevirtual 11602241), (117, .ifCond .eq 133), (120, .aload 0), (121, .dup), (122, .getfield 651), (125, .iconst 1), (126, .iadd), (127, .putfield 651), (130, .goto 23)], 133) := by rfl
theorem B_Mod_read_133 : mj_bl j_Mod_read 133 = some ([(133, .aload 0), (134, .aload 0), (135, .getfield 651), (138, .invokevirtual 11798849), (141, .goto 23)], 144) := by rfl
theorem B_Mod_read_144 : mj_bl j_Mod_read 144 = some ([(144, .iload 3), (145, .ireturn)], 146) := by rfl
theorem B_Mod_holt_0 : mj_bl j_Mod_holt 0 = some ([(0, .aload 0), (1, .invokevirtual 14158144), (4, .aload 0), (5, .invokevirtual 13894976), (8, .aload 0), (9, .iconst 0), (10, .invokevirtual 14029121), (13, .istore 1), (14, .aload 0), (15, .aload 0), (16, .getfield 652), (19, .iconst (-1)), (20, .if_icmp .eq 27), (23, .iconst 1), (24, .goto 43)], 27) := by rfl
theorem B_Mod_holt_27 : mj_bl j_Mod_holt 27 = some ([(27, .aload 0), (28, .getfield 641), (31, .iconst 0), (32, .iaload), (33, .iconst 12), (35, .if_icmp .ne 42), (38, .iconst 2), (39, .goto 43)], 42) := by rfl
theorem B_Mod_holt_42 : mj_bl j_Mod_holt 42 = some ([(42, .iconst 0)], 43) := by rfl
theorem B_Mod_holt_43 : mj_bl j_Mod_holt 43 = some ([(43, .putfield 640), (46, .aload 0), (47, .getfield 640), (50, .ifCond .le 59), (53, .aload 0), (54, .invokevirtual 14289216), (57, .iconst 0), (58, .ireturn)], 59) := by rfl
theorem B_Mod_holt_59 : mj_bl j_Mod_holt 59 = some ([(59, .aload 0), (60, .getfield 641), (63, .iconst 0), (64, .dup2), (65, .iaload), (66, .iconst 1), (67, .iadd), (68, .iastore), (69, .aload 0), (70, .iconst 0), (71, .putfield 646), (74, .aload 0), (75, .getfield 641), (78, .iconst 0), (79, .iaload), (80, .ireturn)], 81) := by rfl
theorem B_Mod_law_0 : mj_bl j_Mod_law 0 = some ([(0, .aload 0), (1, .invokevirtual 13894976), (4, .aload 0), (5, .iconst 1), (6, .invokevirtual 14029121), (9, .istore 1), (10, .aload 0), (11, .aload 0), (12, .getfield 652), (15, .iconst (-1)), (16, .if_icmp .eq 23), (19, .iconst 1), (20, .goto 24)], 23) := by rfl
theorem B_Mod_law_23 : mj_bl j_Mod_law 23 = some ([(23, .iconst 0)], 24) := by rfl
theorem B_Mod_law_24 : mj_bl j_Mod_law 24 = some ([(24, .putfield 640), (27, .aload 0), (28, .getfield 640), (31, .ifCond .le 36), (34, .iconst 0), (35, .ireturn)], 36) := by rfl
theorem B_Mod_law_36 : mj_bl j_Mod_law 36 = some ([(36, .aload 0), (37, .getfield 641), (40, .iconst 1), (41, .iload 1), (42, .iastore), (43, .aload 0), (44, .getfield 641), (47, .iconst 2), (48, .aload 0), (49, .getfield 650), (52, .iastore), (53, .iconst 0), (54, .istore 2)], 55) := by rfl
theorem B_Mod_law_55 : mj_bl j_Mod_law 55 = some ([(55, .iload 2), (56, .aload 0), (57, .getfield 650), (60, .if_icmp .ge 85), (63, .aload 0), (64, .getfield 641), (67, .iconst 366), (70, .iload 2), (71, .iadd), (72, .aload 0), (73, .getfield 647), (76, .iload 2), (77, .iaload), (78, .iastore), (79, .iinc 2 (1)), (82, .goto 55)], 85) := by rfl
theorem B_Mod_law_85 : mj_bl j_Mod_law 85 = some ([(85, .aload 0), (86, .iconst 0), (87, .putfield 646), (90, .iload 1), (91, .ireturn)], 92) := by rfl
theorem B_Mod_asks_0 : mj_bl j_Mod_asks 0 = some ([(0, .aload 0), (1, .aload 0), (2, .iload 1), (3, .iconst 1), (4, .invokevirtual 9702722), (7, .putfield 655), (10, .aload 0), (11, .iconst 5), (12, .putfield 656), (15, .aload 0), (16, .getfield 654), (19, .iconst 0), (20, .iload 1), (21, .iastore), (22, .iconst 0), (23, .istore 2)], 24) := by rfl
theorem B_Mod_asks_24 : mj_bl j_Mod_asks 24 = some ([(24, .iload 2), (25, .iconst 4), (26, .if_icmp .ge 49), (29, .aload 0), (30, .getfield 654), (33, .iload 2), (34, .iconst 1), (35, .iadd), (36, .aload 0), (37, .iload 1), (38, .iload 2), (39, .invokevirtual 9702722), (42, .iastore), (43, .iinc 2 (1)), (46, .goto 24)], 49) := by rfl
theorem B_Mod_asks_49 : mj_bl j_Mod_asks 49 = some ([(49, .aload 0), (50, .getfield 654), (53, .iconst 5), (54, .aload 0), (55, .getfield 641), (58, .iconst 8), (60, .iaload), (61, .iastore), (62, .aload 0), (63, .getfield 654), (66, .iconst 6), (68, .aload 0), (69, .getfield 641), (72, .iconst 9), (74, .iaload), (75, .iconst 100), (77, .irem), (78, .iastore), (79, .aload 0), (80, .getfield 652), (83, .istore 2), (84, .aload 0), (85, .iconst (-1)), (86, .putfield 652), (89, .aload 0), (90, .iconst 366), (93, .putfield 649), (96, .aload 0), (97, .aload 0), (98, .getfield 641), (101, .iconst 1), (102, .iaload), (103, .iconst 1), (104, .if_icmp .ge 111), (107, .iconst 0), (108, .goto 117)], 111) := by rfl
theorem B_Mod_asks_111 : mj_bl j_Mod_asks 111 = some ([(111, .aload 0), (112, .getfield 641), (115, .iconst 2), (116, .iaload)], 117) := by rfl
theorem B_Mod_asks_117 : mj_bl j_Mod_asks 117 = some ([(117, .putfield 650), (120, .aload 0), (121, .iconst 0), (122, .putfield 651), (125, .aload 0), (126, .iconst 0), (127, .putfield 653), (130, .aload 0), (131, .iconst 1), (132, .invokevirtual 14029121), (135, .istore 3), (136, .aload 0), (137, .iload 2), (138, .putfield 652), (141, .aload 0), (142, .iconst 0), (143, .iconst 6), (145, .aload 0), (146, .getfield 655), (149, .invokestatic 9177410), (152, .invokestatic 9308482), (155, .putfield 655), (158, .return_)], 159) := by rfl
theorem B_Mod_reachOf_0 : mj_bl j_Mod_reachOf 0 = some ([(0, .aload 0), (1, .iload 1), (2, .invokevirtual 15733057), (5, .aload 0), (6, .getfield 655), (9, .ireturn)], 10) := by rfl
theorem B_Mod_yieldOf_0 : mj_bl j_Mod_yieldOf 0 = some ([(0, .aload 0), (1, .iload 1), (2, .invokevirtual 15862081), (5, .ifCond .ne 12), (8, .iconst 0), (9, .goto 20)], 12) := by rfl
theorem B_Mod_yieldOf_12 : mj_bl j_Mod_yieldOf 12 = some ([(12, .iconst 2), (13, .aload 0), (14, .iload 1), (15, .iconst 2), (16, .invokevirtual 9702722), (19, .imul)], 20) := by rfl
theorem B_Mod_yieldOf_20 : mj_bl j_Mod_yieldOf 20 = some ([(20, .ireturn)], 21) := by rfl
theorem B_Mod_bed_0 : mj_bl j_Mod_bed 0 = some ([(0, .aload 0), (1, .aload 0), (2, .iload 1), (3, .invokevirtual 10553665), (6, .ifCond .ne 13), (9, .iconst 1), (10, .goto 28)], 13) := by rfl
theorem B_Mod_bed_13 : mj_bl j_Mod_bed 13 = some ([(13, .iload 2), (14, .iconst 0), (15, .iconst 7), (17, .invokestatic 9112899), (20, .ifCond .ne 27), (23, .iconst 2), (24, .goto 28)], 27) := by rfl
theorem B_Mod_bed_27 : mj_bl j_Mod_bed 27 = some ([(27, .iconst 0)], 28) := by rfl
theorem B_Mod_bed_28 : mj_bl j_Mod_bed 28 = some ([(28, .putfield 640), (31, .aload 0), (32, .getfield 640), (35, .ifCond .le 40), (38, .iconst 0), (39, .ireturn)], 40) := by rfl
theorem B_Mod_bed_40 : mj_bl j_Mod_bed 40 = some ([(40, .iload 2), (41, .iconst 4), (42, .if_icmp .ge 52), (45, .aload 0), (46, .iload 1), (47, .iload 2), (48, .invokevirtual 9702722), (51, .ireturn)], 52) := by rfl
theorem B_Mod_bed_52 : mj_bl j_Mod_bed 52 = some ([(52, .iload 2), (53, .iconst 4), (54, .if_icmp .ne 63), (57, .aload 0), (58, .iload 1), (59, .invokevirtual 15862081), (62, .ireturn)], 63) := by rfl
theorem B_Mod_bed_63 : mj_bl j_Mod_bed 63 = some ([(63, .iload 2), (64, .iconst 5), (65, .if_icmp .ne 74), (68, .aload 0), (69, .iload 1), (70, .invokevirtual 15993153), (73, .ireturn)], 74) := by rfl
theorem B_Mod_bed_74 : mj_bl j_Mod_bed 74 = some ([(74, .iload 2), (75, .iconst 7), (77, .if_icmp .ne 95), (80, .iconst 100), (82, .aload 0), (83, .iload 1), (84, .iconst 2), (85, .invokevirtual 9702722), (88, .imul), (89, .aload 0), (90, .invokevirtual 18091328), (93, .idiv), (94, .ireturn)], 95) := by rfl
theorem B_Mod_bed_95 : mj_bl j_Mod_bed 95 = some ([(95, .aload 0), (96, .iload 1), (97, .invokevirtual 15733057), (100, .aload 0), (101, .getfield 656), (104, .ireturn)], 105) := by rfl
theorem B_Mod_cut_0 : mj_bl j_Mod_cut 0 = some ([(0, .aload 0), (1, .aload 0), (2, .iload 1), (3, .invokevirtual 10553665), (6, .ifCond .ne 13), (9, .iconst 1), (10, .goto 14)], 13) := by rfl
theorem B_Mod_cut_13 : mj_bl j_Mod_cut 13 = some ([(13, .iconst 0)], 14) := by rfl
theorem B_Mod_cut_14 : mj_bl j_Mod_cut 14 = some ([(14, .putfield 640), (17, .aload 0), (18, .getfield 640), (21, .ifCond .le 26), (24, .iconst 0), (25, .ireturn)], 26) := by rfl
theorem B_Mod_cut_26 : mj_bl j_Mod_cut 26 = some ([(26, .aload 0), (27, .iload 1), (28, .invokevirtual 15862081), (31, .istore 2), (32, .aload 0), (33, .iload 2), (34, .ifCond .eq 51), (37, .aload 0), (38, .getfield 656), (41, .aload 0), (42, .getfield 641), (45, .iconst 8), (47, .iaload), (48, .if_icmp .le 55)], 51) := by rfl
theorem B_Mod_cut_51 : mj_bl j_Mod_cut 51 = some ([(51, .iconst 2), (52, .goto 56)], 55) := by rfl
theorem B_Mod_cut_55 : mj_bl j_Mod_cut 55 = some ([(55, .iconst 0)], 56) := by rfl
theorem B_Mod_cut_56 : mj_bl j_Mod_cut 56 = some ([(56, .putfield 640), (59, .aload 0), (60, .getfield 640), (63, .ifCond .le 68), (66, .iconst 0), (67, .ireturn)], 68) := by rfl
theorem B_Mod_cut_68 : mj_bl j_Mod_cut 68 = some ([(68, .iconst 2), (69, .aload 0), (70, .iload 1), (71, .iconst 2), (72, .invokevirtual 9702722), (75, .imul), (76, .istore 3), (77, .aload 0), (78, .iconst 8), (80, .aload 0), (81, .getfield 641), (84, .iconst 8), (86, .iaload), (87, .aload 0), (88, .getfield 656), (91, .isub), (92, .invokevirtual 20713794), (95, .istore 4), (97, .aload 0), (98, .getfield 641), (101, .iconst 37), (103, .iload 2), (104, .iadd), (105, .iconst 1), (106, .isub), (107, .iconst 9999), (110, .aload 0), (111, .iload 2), (112, .invokevirtual 10357057), (115, .iload 3), (116, .iadd), (117, .invokestatic 9177410), (120, .iastore), (121, .aload 0), (122, .getfield 641), (125, .iconst 13), (127, .iconst 4), (128, .iload 1), (129, .imul), (130, .iadd), (131, .iconst 1), (132, .iadd), (133, .iconst 0), (134, .iastore), (135, .aload 0), (136, .iload 1), (137, .iconst 0), (138, .iload 3), (139, .invokevirtual 17438019), (142, .iload 3), (143, .ireturn)], 144) := by rfl
theorem B_Mod_packs_0 : mj_bl j_Mod_packs 0 = some ([(0, .iload 1), (1, .iload 2), (2, .if_icmp .ne 7), (5, .iconst 1), (6, .ireturn)], 7) := by rfl
theorem B_Mod_packs_7 : mj_bl j_Mod_packs 7 = some ([(7, .iconst 0), (8, .istore 6)], 10) := by rfl
theorem B_Mod_packs_10 : mj_bl j_Mod_packs 10 = some ([(10, .iload 6), (12, .iload 3), (13, .if_icmp .gt 126), (16, .iload 6), (18, .iload 4), (20, .if_icmp .ge 126), (23, .iload 6), (25, .iload 3), (26, .if_icmp .ne 34), (29, .iload 5), (31, .goto 41)], 34) := by rfl
theorem B_Mod_packs_34 : mj_bl j_Mod_packs 34 = some ([(34, .aload 0), (35, .getfield 662), (38, .iload 6), (40, .iaload)], 41) := by rfl
theorem B_Mod_packs_41 : mj_bl j_Mod_packs 41 = some ([(41, .istore 7), (43, .iload 7), (45, .aload 0), (46, .getfield 647), (49, .iload 1), (50, .iaload), (51, .if_icmp .ge 57), (54, .goto 120)], 57) := by rfl
theorem B_Mod_packs_57 : mj_bl j_Mod_packs 57 = some ([(57, .aload 0), (58, .getfield 662), (61, .iload 6), (63, .iload 7), (65, .aload 0), (66, .getfield 647), (69, .iload 1), (70, .iaload), (71, .isub), (72, .iastore), (73, .aload 0), (74, .getfield 663), (77, .iload 1), (78, .iload 6), (80, .iastore), (81, .aload 0), (82, .iload 1), (83, .iconst 1), (84, .iadd), (85, .iload 2), (86, .iload 6), (88, .iload 3), (89, .if_icmp .ne 98), (92, .iload 3), (93, .iconst 1), (94, .iadd), (95, .goto 99)], 98) := by rfl
theorem B_Mod_packs_98 : mj_bl j_Mod_packs 98 = some ([(98, .iload 3)], 99) := by rfl
theorem B_Mod_packs_99 : mj_bl j_Mod_packs 99 = some ([(99, .iload 4), (101, .iload 5), (103, .invokevirtual 23273797), (106, .ifCond .eq 111), (109, .iconst 1), (110, .ireturn)], 111) := by rfl
theorem B_Mod_packs_111 : mj_bl j_Mod_packs 111 = some ([(111, .aload 0), (112, .getfield 662), (115, .iload 6), (117, .iload 7), (119, .iastore)], 120) := by rfl
theorem B_Mod_packs_120 : mj_bl j_Mod_packs 120 = some ([(120, .iinc 6 (1)), (123, .goto 10)], 126) := by rfl
theorem B_Mod_packs_126 : mj_bl j_Mod_packs 126 = some ([(126, .iconst 0), (127, .ireturn)], 128) := by rfl
theorem B_Mod_rodsFor_0 : mj_bl j_Mod_rodsFor 0 = some ([(0, .iconst 0), (1, .istore 3)], 2) := by rfl
theorem B_Mod_rodsFor_2 : mj_bl j_Mod_rodsFor 2 = some ([(2, .iload 3), (3, .iload 1), (4, .if_icmp .ge 28), (7, .aload 0), (8, .getfield 647), (11, .iload 3), (12, .iaload), (13, .iconst 12), (15, .iload 2), (16, .imul), (17, .if_icmp .le 22), (20, .iconst (-1)), (21, .ireturn)], 22) := by rfl
theorem B_Mod_rodsFor_22 : mj_bl j_Mod_rodsFor 22 = some ([(22, .iinc 3 (1)), (25, .goto 2)], 28) := by rfl
theorem B_Mod_rodsFor_28 : mj_bl j_Mod_rodsFor 28 = some ([(28, .iconst 0), (29, .istore 3)], 30) := by rfl
theorem B_Mod_rodsFor_30 : mj_bl j_Mod_rodsFor 30 = some ([(30, .aload 0), (31, .iconst 0), (32, .iload 1), (33, .iconst 0), (34, .iload 3), (35, .iconst 12), (37, .iload 2), (38, .imul), (39, .invokevirtual 23273797), (42, .ifCond .ne 51), (45, .iinc 3 (1)), (48, .goto 30)], 51) := by rfl
theorem B_Mod_rodsFor_51 : mj_bl j_Mod_rodsFor 51 = some ([(51, .iload 3), (52, .ireturn)], 53) := by rfl
theorem B_Mod_pieces_0 : mj_bl j_Mod_pieces 0 = some ([(0, .aload 0), (1, .iload 1), (2, .invokevirtual 23467329), (5, .istore 2), (6, .aload 0), (7, .getfield 640), (10, .ifCond .le 17), (13, .iconst 0), (14, .goto 23)], 17) := by rfl
theorem B_Mod_pieces_17 : mj_bl j_Mod_pieces 17 = some ([(17, .aload 0), (18, .iload 2), (19, .iload 1), (20, .invokevirtual 23335234)], 23) := by rfl
theorem B_Mod_pieces_23 : mj_bl j_Mod_pieces 23 = some ([(23, .ireturn)], 24) := by rfl
theorem B_Mod_rod_0 : mj_bl j_Mod_rod 0 = some ([(0, .aload 0), (1, .iload 1), (2, .invokevirtual 23467329), (5, .istore 3), (6, .aload 0), (7, .getfield 640), (10, .ifCond .le 15), (13, .iconst 0), (14, .ireturn)], 15) := by rfl
theorem B_Mod_rod_15 : mj_bl j_Mod_rod 15 = some ([(15, .aload 0), (16, .iload 3), (17, .iload 1), (18, .invokevirtual 23335234), (21, .iconst (-1)), (22, .if_icmp .eq 36), (25, .iload 2), (26, .iconst 0), (27, .iload 3), (28, .iconst 1), (29, .isub), (30, .invokestatic 9112899), (33, .ifCond .ne 38)], 36) := by rfl
theorem B_Mod_rod_36 : mj_bl j_Mod_rod 36 = some ([(36, .iconst (-1)), (37, .ireturn)], 38) := by rfl
theorem B_Mod_rod_38 : mj_bl j_Mod_rod 38 = some ([(38, .aload 0), (39, .getfield 663), (42, .iload 2), (43, .iaload), (44, .ireturn)], 45) := by rfl
theorem B_Mod_heHas_0 : mj_bl j_Mod_heHas 0 = some ([(0, .iload 2), (1, .ifCond .ne 24), (4, .iload 3), (5, .ifCond .ne 16), (8, .aload 0), (9, .iload 1), (10, .invokevirtual 15862081), (13, .goto 23)], 16) := by rfl
theorem B_Mod_heHas_16 : mj_bl j_Mod_heHas 16 = some ([(16, .aload 0), (17, .iload 1), (18, .invokevirtual 15862081), (21, .iconst 2), (22, .iadd)], 23) := by rfl
theorem B_Mod_heHas_23 : mj_bl j_Mod_heHas 23 = some ([(23, .ireturn)], 24) := by rfl
theorem B_Mod_heHas_24 : mj_bl j_Mod_heHas 24 = some ([(24, .iload 3), (25, .ifCond .ne 38), (28, .aload 0), (29, .iload 1), (30, .iconst 3), (31, .invokevirtual 9702722), (34, .ineg), (35, .goto 44)], 38) := by rfl
theorem B_Mod_heHas_38 : mj_bl j_Mod_heHas 38 = some ([(38, .aload 0), (39, .iload 1), (40, .iconst 1), (41, .invokevirtual 9702722)], 44) := by rfl
theorem B_Mod_heHas_44 : mj_bl j_Mod_heHas 44 = some ([(44, .ireturn)], 45) := by rfl
theorem B_Mod_rests_0 : mj_bl j_Mod_rests 0 = some ([(0, .aload 0), (1, .aload 0), (2, .iload 1), (3, .invokevirtual 10553665), (6, .ifCond .ne 13), (9, .iconst 1), (10, .goto 14)], 13) := by rfl
theorem B_Mod_rests_13 : mj_bl j_Mod_rests 13 = some ([(13, .iconst 0)], 14) := by rfl
theorem B_Mod_rests_14 : mj_bl j_Mod_rests 14 = some ([(14, .putfield 640), (17, .aload 0), (18, .getfield 640), (21, .ifCond .le 26), (24, .iconst 0), (25, .ireturn)], 26) := by rfl
theorem B_Mod_rests_26 : mj_bl j_Mod_rests 26 = some ([(26, .iconst 0), (27, .istore 2), (28, .iconst 0), (29, .istore 3)], 30) := by rfl
theorem B_Mod_rests_30 : mj_bl j_Mod_rests 30 = some ([(30, .iload 3), (31, .iconst 4), (32, .if_icmp .ge 99), (35, .iload 3), (36, .iconst 2), (37, .idiv), (38, .istore 4), (40, .iload 3), (41, .iconst 2), (42, .irem), (43, .istore 5), (45, .aload 0), (46, .iload 1), (47, .iconst 1), (48, .iload 4), (50, .isub), (51, .iload 5), (53, .invokevirtual 26087747), (56, .aload 0), (57, .iload 1), (58, .iload 4), (60, .iload 5), (62, .invokevirtual 26087747), (65, .if_icmp .gt 93), (68, .iload 4), (70, .iconst 1), (71, .iload 5), (73, .isub), (74, .invokestatic 26216770), (77, .iload 4), (79, .iload 5), (81, .invokestatic 26216770), (84, .if_icmp .gt 93), (87, .iload 2), (88, .iconst 1), (89, .iload 3), (90, .ishl), (91, .ior), (92, .istore 2)], 93) := by rfl
theorem B_Mod_rests_93 : mj_bl j_Mod_rests 93 = some ([(93, .iinc 3 (1)), (96, .goto 30)], 99) := by rfl
theorem B_Mod_rests_99 : mj_bl j_Mod_rests 99 = some ([(99, .iload 2), (100, .ireturn)], 101) := by rfl
def f_Main_holt (s : lf_S) : Option ((Nat ⊕ Int32) × lf_S) := (f_Holt_copy 40 10 s).bind (fun p1 => (f_HoltText_read 40 p1).bind (fun p2 => lf_lt p2.1 (fun e3 => lf_lt (lf_w p2.2 1 1 (0 : Int32)) (fun s4 => (if e3 = true then (if (s4.1 10 6) < (12 : Int32) then (f_Holt_copy 10 40 s4).bind (fun p5 => lf_lt (lf_w p5 10 6 ((p5.1 10 6) + (1 : Int32))) (fun s6 => lf_lt (lf_w s6 0 10 (0 : Int32)) (fun s7 => some (Sum.inr (s7.1 10 6), s7)))) else some (Sum.inl 1, s4)) else some (Sum.inl 0, s4))))))
def f_LawText_readAny_8 (q_LawText_readAny : Nat → Int32 → lf_S → Option (lf_S)) (q_LawText_readAll : Nat → Int32 → lf_S → Option (lf_S)) (q_LawText_readAtom : Nat → Int32 → lf_S → Option (lf_S)) (a1 : Nat) (c2 : Int32) : Nat → Int32 → lf_S → Option (lf_S)
  | 0, _, _ => none
  | n + 1, v3, s => (if (400 : Int32) ≤ v3 then some s else (f_Tape_takeWord 58 s).bind (fun p3 => (if p3.1 = true then (q_LawText_readAll a1 c2 p3.2).bind (fun p4 => (f_Law_emit a1 (1015 : Int32) p4).bind (fun p5 => lf_lt (v3 + (1 : Int32)) (fun y6 => f_LawText_readAny_8 q_LawText_readAny q_LawText_readAll q_LawText_readAtom a1 c2 n y6 p5))) else some p3.2)))
def fb_LawText_readAny (q_LawText_readAny : Nat → Int32 → lf_S → Option (lf_S)) (q_LawText_readAll : Nat → Int32 → lf_S → Option (lf_S)) (q_LawText_readAtom : Nat → Int32 → lf_S → Option (lf_S)) (a1 : Nat) (x2 : Int32) (s : lf_S) : Option (lf_S) := (q_LawText_readAll a1 x2 s).bind (fun p1 => lf_lt (0 : Int32) (fun y2 => (f_LawText_readAny_8 q_LawText_readAny q_LawText_readAll q_LawText_readAtom a1 x2 5000 y2 p1).bind (fun p7 => some p7)))
def f_LawText_readAll_8 (q_LawText_readAny : Nat → Int32 → lf_S → Option (lf_S)) (q_LawText_readAll : Nat → Int32 → lf_S → Option (lf_S)) (q_LawText_readAtom : Nat → Int32 → lf_S → Option (lf_S)) (a1 : Nat) (c2 : Int32) : Nat → Int32 → lf_S → Option (lf_S)
  | 0, _, _ => none
  | n + 1, v3, s => (if (400 : Int32) ≤ v3 then some s else (f_Tape_takeWord 59 s).bind (fun p3 => (if p3.1 = true then (q_LawText_readAtom a1 c2 p3.2).bind (fun p4 => (f_Law_emit a1 (1014 : Int32) p4).bind (fun p5 => lf_lt (v3 + (1 : Int32)) (fun y6 => f_LawText_readAll_8 q_LawText_readAny q_LawText_readAll q_LawText_readAtom a1 c2 n y6 p5))) else some p3.2)))
def fb_LawText_readAll (q_LawText_readAny : Nat → Int32 → lf_S → Option (lf_S)) (q_LawText_readAll : Nat → Int32 → lf_S → Option (lf_S)) (q_LawText_readAtom : Nat → Int32 → lf_S → Option (lf_S)) (a1 : Nat) (x2 : Int32) (s : lf_S) : Option (lf_S) := (q_LawText_readAtom a1 x2 s).bind (fun p1 => lf_lt (0 : Int32) (fun y2 => (f_LawText_readAll_8 q_LawText_readAny q_LawText_readAll q_LawText_readAtom a1 x2 5000 y2 p1).bind (fun p7 => some p7)))
def fb_LawText_readAtom (q_LawText_readAny : Nat → Int32 → lf_S → Option (lf_S)) (q_LawText_readAll : Nat → Int32 → lf_S → Option (lf_S)) (q_LawText_readAtom : Nat → Int32 → lf_S → Option (lf_S)) (a1 : Nat) (x2 : Int32) (s : lf_S) : Option (lf_S) := (if (6 : Int32) ≤ x2 then (if (6 : Int32) ≤ x2 then (f_Tape_takeWord 61 s).bind (fun p1 => (if p1.1 = true then (f_Law_emit a1 (1007 : Int32) p1.2).bind (fun p7 => some p7) else (f_Tape_takeWord 62 p1.2).bind (fun p2 => (if p2.1 = true then (f_Law_emit a1 (1008 : Int32) p2.2).bind (fun p6 => some p6) else (f_Tape_takeWord 63 p2.2).bind (fun p3 => (if p3.1 = true then (f_Law_emit a1 (1009 : Int32) p3.2).bind (fun p5 => some p5) else (f_LawText_readComparison a1 p3.2).bind (fun p4 => some p4))))))) else (f_Tape_takeSign (40 : Int32) s).bind (fun p8 => (if p8.1 = true then (q_LawText_readAny a1 (x2 + (1 : Int32)) p8.2).bind (fun p16 => (f_Tape_takeSign (41 : Int32) p16).bind (fun p17 => (if p17.1 = true then some p17.2 else (f_Tape_fail p17.2).bind (fun p18 => some p18)))) else (f_Tape_takeWord 61 p8.2).bind (fun p9 => (if p9.1 = true then (f_Law_emit a1 (1007 : Int32) p9.2).bind (fun p15 => some p15) else (f_Tape_takeWord 62 p9.2).bind (fun p10 => (if p10.1 = true then (f_Law_emit a1 (1008 : Int32) p10.2).bind (fun p14 => some p14) else (f_Tape_takeWord 63 p10.2).bind (fun p11 => (if p11.1 = true then (f_Law_emit a1 (1009 : Int32) p11.2).bind (fun p13 => some p13) else (f_LawText_readComparison a1 p11.2).bind (fun p12 => some p12)))))))))) else (f_Tape_takeWord 60 s).bind (fun p19 => (if p19.1 = true then (q_LawText_readAtom a1 (x2 + (1 : Int32)) p19.2).bind (fun p38 => (f_Law_emit a1 (1010 : Int32) p38).bind (fun p39 => some p39)) else (if (6 : Int32) ≤ x2 then (f_Tape_takeWord 61 p19.2).bind (fun p20 => (if p20.1 = true then (f_Law_emit a1 (1007 : Int32) p20.2).bind (fun p26 => some p26) else (f_Tape_takeWord 62 p20.2).bind (fun p21 => (if p21.1 = true then (f_Law_emit a1 (1008 : Int32) p21.2).bind (fun p25 => some p25) else (f_Tape_takeWord 63 p21.2).bind (fun p22 => (if p22.1 = true then (f_Law_emit a1 (1009 : Int32) p22.2).bind (fun p24 => some p24) else (f_LawText_readComparison a1 p22.2).bind (fun p23 => some p23))))))) else (f_Tape_takeSign (40 : Int32) p19.2).bind (fun p27 => (if p27.1 = true then (q_LawText_readAny a1 (x2 + (1 : Int32)) p27.2).bind (fun p35 => (f_Tape_takeSign (41 : Int32) p35).bind (fun p36 => (if p36.1 = true then some p36.2 else (f_Tape_fail p36.2).bind (fun p37 => some p37)))) else (f_Tape_takeWord 61 p27.2).bind (fun p28 => (if p28.1 = true then (f_Law_emit a1 (1007 : Int32) p28.2).bind (fun p34 => some p34) else (f_Tape_takeWord 62 p28.2).bind (fun p29 => (if p29.1 = true then (f_Law_emit a1 (1008 : Int32) p29.2).bind (fun p33 => some p33) else (f_Tape_takeWord 63 p29.2).bind (fun p30 => (if p30.1 = true then (f_Law_emit a1 (1009 : Int32) p30.2).bind (fun p32 => some p32) else (f_LawText_readComparison a1 p30.2).bind (fun p31 => some p31)))))))))))))
def F_LawText_readAny : Nat → (Nat → Int32 → lf_S → Option (lf_S)) × (Nat → Int32 → lf_S → Option (lf_S)) × (Nat → Int32 → lf_S → Option (lf_S))
  | 0 => (fun _ _ _ => none, fun _ _ _ => none, fun _ _ _ => none)
  | n + 1 => (fb_LawText_readAny (F_LawText_readAny n).1 (F_LawText_readAny n).2.1 (F_LawText_readAny n).2.2, fb_LawText_readAll (F_LawText_readAny n).1 (F_LawText_readAny n).2.1 (F_LawText_readAny n).2.2, fb_LawText_readAtom (F_LawText_readAny n).1 (F_LawText_readAny n).2.1 (F_LawText_readAny n).2.2)
def f_LawText_readAny (a1 : Nat) (x2 : Int32) (s : lf_S) : Option (lf_S) := (F_LawText_readAny 64).1 a1 x2 s
def f_LawText_readAll (a1 : Nat) (x2 : Int32) (s : lf_S) : Option (lf_S) := (F_LawText_readAny 64).2.1 a1 x2 s
def f_LawText_readAtom (a1 : Nat) (x2 : Int32) (s : lf_S) : Option (lf_S) := (F_LawText_readAny 64).2.2 a1 x2 s
def f_LawText_read_10 (a1 : Nat) : Nat → Int32 → lf_S → Option (lf_S)
  | 0, _, _ => none
  | n + 1, v2, s => (if (12 : Int32) < v2 then some s else (f_Tape_lineComes v2 (12 : Int32) s).bind (fun p4 => (if p4.1 = true then (f_LawText_readKind p4.2).bind (fun p5 => lf_lt p5.1 (fun y6 => (f_Tape_takeNumber (0 : Int32) (99 : Int32) p5.2).bind (fun p7 => lf_lt p7.1 (fun y8 => (f_Tape_takeWord 54 p7.2).bind (fun p9 => (if p9.1 = true then (f_LawText_readAny a1 (0 : Int32) p9.2).bind (fun p12 => (f_Law_endLine a1 y6 y8 p12).bind (fun p13 => lf_lt (v2 + (1 : Int32)) (fun y14 => f_LawText_read_10 a1 n y14 p13))) else (f_Law_endLine a1 y6 y8 p9.2).bind (fun p10 => lf_lt (v2 + (1 : Int32)) (fun y11 => f_LawText_read_10 a1 n y11 p10)))))))) else some p4.2)))
def f_LawText_read (a1 : Nat) (s : lf_S) : Option (Bool × lf_S) := (f_Tape_start s).bind (fun p1 => (f_Law_clear a1 p1).bind (fun p2 => lf_lt (0 : Int32) (fun y3 => (f_LawText_read_10 a1 5000 y3 p2).bind (fun p15 => (f_Tape_failed p15).bind (fun p16 => (if p16 = true then some (false, p15) else some (true, p15)))))))
def f_Main_law (s : lf_S) : Option ((Nat ⊕ Int32) × lf_S) := (f_LawText_read 64 s).bind (fun p1 => lf_lt p1.1 (fun e2 => lf_lt (lf_w p1.2 1 1 (0 : Int32)) (fun s3 => (if e2 = true then (f_Law_copy 34 64 s3).bind (fun p4 => lf_lt (lf_w p4 0 10 (0 : Int32)) (fun s5 => some (Sum.inr (s5.1 34 0), s5))) else some (Sum.inl 0, s3)))))
def f_Main_needIndex (x0 : Int32) (x1 : Int32) (x2 : Int32) (s : lf_S) : Option ((Nat ⊕ Unit) × lf_S) := (if x0 < x1 then some (Sum.inl 3, s) else (if x0 ≤ x2 then some (Sum.inr (), s) else some (Sum.inl 3, s)))
def f_Main_needBed (x1 : Int32) (s : lf_S) : Option ((Nat ⊕ Unit) × lf_S) := lf_tb (f_Main_needIndex x1 (0 : Int32) ((s.1 (10 + 1) 0) - (1 : Int32)) s) (fun v1 s2 => some (Sum.inr (), s2))
def f_Main_bed (x1 : Int32) (x2 : Int32) (s : lf_S) : Option ((Nat ⊕ Int32) × lf_S) := lf_tb (f_Main_needBed x1 s) (fun v1 s2 => lf_lt x2 (fun y3 => (if y3 = (0 : Int32) then lf_ck x1 6 (fun k4 => some (Sum.inr (s2.1 ((10 + 1) + 1) k4), s2)) else (if y3 = (1 : Int32) then lf_ck x1 6 (fun k5 => some (Sum.inr (s2.1 ((10 + 1) + 2) k5), s2)) else (if y3 = (2 : Int32) then lf_ck x1 6 (fun k6 => some (Sum.inr (s2.1 ((10 + 1) + 3) k6), s2)) else (if y3 = (3 : Int32) then lf_ck x1 6 (fun k7 => some (Sum.inr (s2.1 ((10 + 1) + 4) k7), s2)) else (if y3 = (4 : Int32) then (f_Law_reachOf 34 10 x1 s2).bind (fun p8 => some (Sum.inr p8.1, p8.2)) else (if y3 = (5 : Int32) then (f_Law_yieldOf 34 10 x1 s2).bind (fun p9 => some (Sum.inr p9.1, p9.2)) else (if y3 = (6 : Int32) then (f_Law_costOf 34 10 x1 s2).bind (fun p10 => some (Sum.inr p10.1, p10.2)) else (if y3 = (7 : Int32) then (f_Beds_partOf (10 + 1) x1 s2).bind (fun p11 => some (Sum.inr p11, s2)) else some (Sum.inl 2, s2)))))))))))
def f_Main_needBasket (x1 : Int32) (s : lf_S) : Option ((Nat ⊕ Unit) × lf_S) := lf_tb (f_Main_needIndex x1 (0 : Int32) ((s.1 (10 + 6) 0) - (1 : Int32)) s) (fun v1 s2 => some (Sum.inr (), s2))
def f_Main_basket (x1 : Int32) (x2 : Int32) (s : lf_S) : Option ((Nat ⊕ Int32) × lf_S) := lf_tb (f_Main_needBasket x1 s) (fun v1 s2 => lf_lt x2 (fun y3 => (if y3 = (0 : Int32) then lf_ck x1 5 (fun k4 => some (Sum.inr (s2.1 ((10 + 6) + 1) k4), s2)) else (if y3 = (1 : Int32) then lf_ck x1 5 (fun k5 => some (Sum.inr (s2.1 ((10 + 6) + 2) k5), s2)) else (if y3 = (2 : Int32) then lf_ck x1 5 (fun k6 => some (Sum.inr (s2.1 ((10 + 6) + 3) k6), s2)) else (if y3 = (3 : Int32) then lf_ck x1 5 (fun k7 => some (Sum.inr (s2.1 ((10 + 6) + 4) k7), s2)) else (if y3 = (4 : Int32) then (f_Baskets_needOf (10 + 6) x1 s2).bind (fun p8 => some (Sum.inr p8, s2)) else (if y3 = (5 : Int32) then lf_ck x1 5 (fun k9 => some (Sum.inr (s2.1 ((10 + 6) + 6) k9), s2)) else (if y3 = (6 : Int32) then (f_Baskets_againOf (10 + 6) x1 s2).bind (fun p10 => some (Sum.inr p10, s2)) else (if y3 = (7 : Int32) then lf_ck x1 5 (fun k11 => (f_Baskets_looseOf (10 + 6) x1 (s2.1 ((10 + 6) + 1) k11) s2).bind (fun p12 => some (Sum.inr p12, s2))) else (if y3 = (8 : Int32) then (f_Baskets_floatOf (10 + 6) x1 s2).bind (fun p13 => some (Sum.inr p13, s2)) else (if y3 = (9 : Int32) then (f_Baskets_dropOf (10 + 6) x1 s2).bind (fun p14 => some (Sum.inr p14, s2)) else (if y3 = (10 : Int32) then (f_Baskets_blindOf (10 + 6) x1 s2).bind (fun p15 => some (Sum.inr p15, s2)) else (if y3 = (11 : Int32) then (f_Baskets_fitOf (10 + 6) x1 s2).bind (fun p16 => some (Sum.inr p16, s2)) else (if y3 = (12 : Int32) then (f_Ways_nearest (10 + 6) x1 s2).bind (fun p17 => some (Sum.inr p17.1, p17.2)) else some (Sum.inl 2, s2))))))))))))))))
def f_Main_run (x1 : Int32) (x2 : Int32) (s : lf_S) : Option ((Nat ⊕ Int32) × lf_S) := lf_tb (f_Main_needBasket x1 s) (fun v1 s2 => (if x2 < 0 then some (Sum.inr (-1 : Int32), s2) else lf_ck x1 5 (fun k3 => (if x2 < (s2.1 ((10 + 6) + 5) k3) then (f_Baskets_runOf (10 + 6) x1 x2 s2).bind (fun p4 => some (Sum.inr p4, s2)) else some (Sum.inr (-1 : Int32), s2)))))
def f_Main_over (x1 : Int32) (x2 : Int32) (x3 : Int32) (s : lf_S) : Option ((Nat ⊕ Bool) × lf_S) := lf_tb (f_Main_needBasket x1 s) (fun v1 s2 => lf_ck x1 5 (fun k3 => lf_lt (s2.1 ((10 + 6) + 1) k3) (fun y4 => (if x2 < 0 then some (Sum.inl 0, s2) else lf_ck x1 5 (fun k5 => (if (s2.1 ((10 + 6) + 2) k5) ≤ x2 then some (Sum.inl 0, s2) else (if x3 < 0 then some (Sum.inl 0, s2) else (if x3 < y4 then (f_Baskets_passesOver (10 + 6) x1 ((x2 * y4) + x3) s2).bind (fun p6 => some (Sum.inr p6, s2)) else some (Sum.inl 0, s2)))))))))
def f_Main_sound (x1 : Int32) (s : lf_S) : Option ((Nat ⊕ Bool) × lf_S) := lf_tb (f_Main_needBasket x1 s) (fun v1 s2 => lf_ck x1 5 (fun k3 => (f_Baskets_looseOf (10 + 6) x1 (s2.1 ((10 + 6) + 1) k3) s2).bind (fun p4 => (if p4 = 0 then some (Sum.inr true, s2) else some (Sum.inr false, s2)))))
def f_Main_needFeet (x0 : Int32) (s : lf_S) : Option ((Nat ⊕ Unit) × lf_S) := lf_tb (f_Main_needIndex x0 (1 : Int32) (6 : Int32) s) (fun v1 s2 => some (Sum.inr (), s2))
def f_Main_store (x1 : Int32) (s : lf_S) : Option ((Nat ⊕ Int32) × lf_S) := lf_tb (f_Main_needFeet x1 s) (fun v1 s2 => lf_ck x1 7 (fun k3 => some (Sum.inr (s2.1 (10 + 23) k3), s2)))
def f_Main_needHand (x1 : Int32) (s : lf_S) : Option ((Nat ⊕ Unit) × lf_S) := lf_tb (f_Main_needIndex x1 (0 : Int32) ((s.1 (10 + 15) 0) - (1 : Int32)) s) (fun v1 s2 => some (Sum.inr (), s2))
def f_Main_hand (x1 : Int32) (x2 : Int32) (s : lf_S) : Option ((Nat ⊕ Int32) × lf_S) := lf_tb (f_Main_needHand x1 s) (fun v1 s2 => (if x2 = 0 then lf_ck x1 5 (fun k3 => some (Sum.inr (s2.1 ((10 + 15) + 1) k3), s2)) else lf_ck x1 5 (fun k4 => some (Sum.inr (s2.1 ((10 + 15) + 2) k4), s2))))
def f_Main_needOrder (x1 : Int32) (s : lf_S) : Option ((Nat ⊕ Unit) × lf_S) := lf_tb (f_Main_needIndex x1 (0 : Int32) ((s.1 (10 + 18) 0) - (1 : Int32)) s) (fun v1 s2 => some (Sum.inr (), s2))
def f_Main_order (x1 : Int32) (x2 : Int32) (s : lf_S) : Option ((Nat ⊕ Int32) × lf_S) := lf_tb (f_Main_needOrder x1 s) (fun v1 s2 => lf_lt x2 (fun y3 => (if y3 = (0 : Int32) then lf_ck x1 6 (fun k4 => some (Sum.inr (s2.1 ((10 + 18) + 1) k4), s2)) else (if y3 = (1 : Int32) then lf_ck x1 6 (fun k5 => some (Sum.inr (s2.1 ((10 + 18) + 2) k5), s2)) else (if y3 = (2 : Int32) then (f_Orders_isOpen (10 + 18) x1 s2).bind (fun p6 => (if p6 = true then some (Sum.inr (1 : Int32), s2) else some (Sum.inr (0 : Int32), s2))) else (if y3 = (3 : Int32) then (f_Holt_rodsFor 10 x1 s2).bind (fun p7 => some (Sum.inr p7, s2)) else some (Sum.inl 2, s2)))))))
def f_Main_needWithin (x0 : Int32) (x1 : Int32) (x2 : Int32) (s : lf_S) : Option ((Nat ⊕ Unit) × lf_S) := (if x0 < x1 then some (Sum.inl 0, s) else (if x0 ≤ x2 then some (Sum.inr (), s) else some (Sum.inl 0, s)))
def f_Main_years (x1 : Int32) (s : lf_S) : Option ((Nat ⊕ Int32) × lf_S) := lf_tb (f_Main_needWithin x1 (1 : Int32) (60 : Int32) s) (fun v1 s2 => (f_Main_remember s2).bind (fun p3 => (f_Holt_passYears 10 x1 p3).bind (fun p4 => some (Sum.inr p4.1, p4.2))))
def f_Main_needPossible (x0 : Int32) (s : lf_S) : Option ((Nat ⊕ Unit) × lf_S) := (if x0 = 0 then some (Sum.inl 4, s) else some (Sum.inr (), s))
def f_Main_cut (x1 : Int32) (s : lf_S) : Option ((Nat ⊕ Int32) × lf_S) := lf_tb (f_Main_needBed x1 s) (fun v1 s2 => (f_Law_reachOf 34 10 x1 s2).bind (fun p3 => lf_lt p3.1 (fun y4 => (f_Law_costOf 34 10 x1 p3.2).bind (fun p5 => lf_lt p5.1 (fun y6 => (if y4 ≤ 0 then lf_tb (f_Main_needPossible (0 : Int32) p5.2) (fun v7 s8 => (f_Law_yieldOf 34 10 x1 s8).bind (fun p9 => lf_lt p9.1 (fun y10 => (f_Main_remember p9.2).bind (fun p11 => lf_lt (lf_w p11 10 8 ((p11.1 10 8) - y6)) (fun s12 => lf_ck x1 6 (fun k13 => lf_lt (lf_w s12 ((10 + 1) + 2) k13 (0 : Int32)) (fun s14 => lf_ck y4 7 (fun k15 => lf_ck y4 7 (fun k16 => lf_lt (lf_w s14 (10 + 23) k16 (lf_mn ((s14.1 (10 + 23) k15) + y10) (9999 : Int32))) (fun s17 => (f_Log_add (10 + 21) (s17.1 10 9) x1 (0 : Int32) y10 s17).bind (fun p18 => some (Sum.inr y10, p18)))))))))))) else (if (p5.2.1 10 8) < y6 then lf_tb (f_Main_needPossible (0 : Int32) p5.2) (fun v19 s20 => (f_Law_yieldOf 34 10 x1 s20).bind (fun p21 => lf_lt p21.1 (fun y22 => (f_Main_remember p21.2).bind (fun p23 => lf_lt (lf_w p23 10 8 ((p23.1 10 8) - y6)) (fun s24 => lf_ck x1 6 (fun k25 => lf_lt (lf_w s24 ((10 + 1) + 2) k25 (0 : Int32)) (fun s26 => lf_ck y4 7 (fun k27 => lf_ck y4 7 (fun k28 => lf_lt (lf_w s26 (10 + 23) k28 (lf_mn ((s26.1 (10 + 23) k27) + y22) (9999 : Int32))) (fun s29 => (f_Log_add (10 + 21) (s29.1 10 9) x1 (0 : Int32) y22 s29).bind (fun p30 => some (Sum.inr y22, p30)))))))))))) else lf_tb (f_Main_needPossible (1 : Int32) p5.2) (fun v31 s32 => (f_Law_yieldOf 34 10 x1 s32).bind (fun p33 => lf_lt p33.1 (fun y34 => (f_Main_remember p33.2).bind (fun p35 => lf_lt (lf_w p35 10 8 ((p35.1 10 8) - y6)) (fun s36 => lf_ck x1 6 (fun k37 => lf_lt (lf_w s36 ((10 + 1) + 2) k37 (0 : Int32)) (fun s38 => lf_ck y4 7 (fun k39 => lf_ck y4 7 (fun k40 => lf_lt (lf_w s38 (10 + 23) k40 (lf_mn ((s38.1 (10 + 23) k39) + y34) (9999 : Int32))) (fun s41 => (f_Log_add (10 + 21) (s41.1 10 9) x1 (0 : Int32) y34 s41).bind (fun p42 => some (Sum.inr y34, p42)))))))))))))))))))
def f_Main_buy (x1 : Int32) (x2 : Int32) (s : lf_S) : Option ((Nat ⊕ Int32) × lf_S) := lf_tb (f_Main_needFeet x1 s) (fun v1 s2 => lf_tb (f_Main_needWithin x2 (1 : Int32) (999 : Int32) s2) (fun v3 s4 => (if (s4.1 10 8) < (x1 * x2) then lf_tb (f_Main_needPossible (0 : Int32) s4) (fun v5 s6 => (f_Main_remember s6).bind (fun p7 => lf_lt (lf_w p7 10 8 ((p7.1 10 8) - (x1 * x2))) (fun s8 => lf_ck x1 7 (fun k9 => lf_ck x1 7 (fun k10 => lf_lt (lf_w s8 (10 + 23) k10 ((s8.1 (10 + 23) k9) + x2)) (fun s11 => some (Sum.inr (s11.1 10 8), s11))))))) else lf_ck x1 7 (fun k12 => (if (9999 : Int32) < ((s4.1 (10 + 23) k12) + x2) then lf_tb (f_Main_needPossible (0 : Int32) s4) (fun v13 s14 => (f_Main_remember s14).bind (fun p15 => lf_lt (lf_w p15 10 8 ((p15.1 10 8) - (x1 * x2))) (fun s16 => lf_ck x1 7 (fun k17 => lf_ck x1 7 (fun k18 => lf_lt (lf_w s16 (10 + 23) k18 ((s16.1 (10 + 23) k17) + x2)) (fun s19 => some (Sum.inr (s19.1 10 8), s19))))))) else lf_tb (f_Main_needPossible (1 : Int32) s4) (fun v20 s21 => (f_Main_remember s21).bind (fun p22 => lf_lt (lf_w p22 10 8 ((p22.1 10 8) - (x1 * x2))) (fun s23 => lf_ck x1 7 (fun k24 => lf_ck x1 7 (fun k25 => lf_lt (lf_w s23 (10 + 23) k25 ((s23.1 (10 + 23) k24) + x2)) (fun s26 => some (Sum.inr (s26.1 10 8), s26))))))))))))
def f_Main_sell (x1 : Int32) (x2 : Int32) (s : lf_S) : Option ((Nat ⊕ Int32) × lf_S) := lf_tb (f_Main_needFeet x1 s) (fun v1 s2 => lf_tb (f_Main_needWithin x2 (1 : Int32) (999 : Int32) s2) (fun v3 s4 => lf_ck x1 7 (fun k5 => (if (s4.1 (10 + 23) k5) < x2 then lf_tb (f_Main_needPossible (0 : Int32) s4) (fun v6 s7 => (f_Main_remember s7).bind (fun p8 => lf_ck x1 7 (fun k9 => lf_ck x1 7 (fun k10 => lf_lt (lf_w p8 (10 + 23) k10 ((p8.1 (10 + 23) k9) - x2)) (fun s11 => (f_Holt_earn 10 ((x1 * x2) / (2 : Int32)) s11).bind (fun p12 => some (Sum.inr (p12.1 10 8), p12))))))) else lf_tb (f_Main_needPossible (1 : Int32) s4) (fun v13 s14 => (f_Main_remember s14).bind (fun p15 => lf_ck x1 7 (fun k16 => lf_ck x1 7 (fun k17 => lf_lt (lf_w p15 (10 + 23) k17 ((p15.1 (10 + 23) k16) - x2)) (fun s18 => (f_Holt_earn 10 ((x1 * x2) / (2 : Int32)) s18).bind (fun p19 => some (Sum.inr (p19.1 10 8), p19)))))))))))
def f_Main_take (x1 : Int32) (x2 : Int32) (s : lf_S) : Option ((Nat ⊕ Int32) × lf_S) := lf_tb (f_Main_needBasket x1 s) (fun v1 s2 => lf_tb (f_Main_needWithin x2 (1 : Int32) (9 : Int32) s2) (fun v3 s4 => (if (6 : Int32) ≤ (s4.1 (10 + 18) 0) then lf_tb (f_Main_needPossible (0 : Int32) s4) (fun v5 s6 => (f_Main_remember s6).bind (fun p7 => (f_Orders_add (10 + 18) x1 x2 p7).bind (fun p8 => some (Sum.inr ((p8.1 (10 + 18) 0) - (1 : Int32)), p8)))) else lf_tb (f_Main_needPossible (1 : Int32) s4) (fun v9 s10 => (f_Main_remember s10).bind (fun p11 => (f_Orders_add (10 + 18) x1 x2 p11).bind (fun p12 => some (Sum.inr ((p12.1 (10 + 18) 0) - (1 : Int32)), p12)))))))
def f_Main_drop (x1 : Int32) (s : lf_S) : Option ((Nat ⊕ Unit) × lf_S) := lf_tb (f_Main_needOrder x1 s) (fun v1 s2 => (f_Orders_isOpen (10 + 18) x1 s2).bind (fun p3 => lf_tb (f_Main_needPossible (lf_i p3) s2) (fun v4 s5 => (f_Main_remember s5).bind (fun p6 => (f_Orders_shut (10 + 18) x1 p6).bind (fun p7 => some (Sum.inr (), p7))))))
def f_Main_drain (x1 : Int32) (x2 : Int32) (s : lf_S) : Option ((Nat ⊕ Int32) × lf_S) := lf_tb (f_Main_needBed x1 s) (fun v1 s2 => lf_tb (f_Main_needWithin x2 (0 : Int32) (9 : Int32) s2) (fun v3 s4 => (f_Main_remember s4).bind (fun p5 => lf_ck x1 6 (fun k6 => lf_lt (p5.1 ((10 + 1) + 4) k6) (fun y7 => lf_ck x1 6 (fun k8 => lf_lt (lf_w p5 ((10 + 1) + 4) k8 x2) (fun s9 => some (Sum.inr y7, s9))))))))
def f_Main_hire (x1 : Int32) (x2 : Int32) (s : lf_S) : Option ((Nat ⊕ Int32) × lf_S) := lf_tb (f_Main_needWithin x1 (1 : Int32) (9 : Int32) s) (fun v1 s2 => lf_tb (f_Main_needWithin x2 (0 : Int32) (99 : Int32) s2) (fun v3 s4 => (if (5 : Int32) ≤ (s4.1 (10 + 15) 0) then lf_tb (f_Main_needPossible (0 : Int32) s4) (fun v5 s6 => (f_Main_remember s6).bind (fun p7 => (f_Hands_add (10 + 15) x1 x2 p7).bind (fun p8 => some (Sum.inr ((p8.1 (10 + 15) 0) - (1 : Int32)), p8)))) else lf_tb (f_Main_needPossible (1 : Int32) s4) (fun v9 s10 => (f_Main_remember s10).bind (fun p11 => (f_Hands_add (10 + 15) x1 x2 p11).bind (fun p12 => some (Sum.inr ((p12.1 (10 + 15) 0) - (1 : Int32)), p12)))))))
def f_Main_teach (x1 : Int32) (s : lf_S) : Option ((Nat ⊕ Int32) × lf_S) := lf_tb (f_Main_needHand x1 s) (fun v1 s2 => (f_Main_remember s2).bind (fun p3 => lf_ck x1 5 (fun k4 => lf_ck x1 5 (fun k5 => lf_lt (lf_w p3 ((10 + 15) + 1) k5 (lf_mn ((p3.1 ((10 + 15) + 1) k4) + (1 : Int32)) (9 : Int32))) (fun s6 => lf_ck x1 5 (fun k7 => some (Sum.inr (s6.1 ((10 + 15) + 1) k7), s6)))))))
def f_Main_make (x1 : Int32) (s : lf_S) : Option ((Nat ⊕ Int32) × lf_S) := lf_tb (f_Main_needOrder x1 s) (fun v1 s2 => (f_Holt_canMake 10 x1 s2).bind (fun p3 => lf_tb (f_Main_needPossible (lf_i p3) s2) (fun v4 s5 => (f_Main_remember s5).bind (fun p6 => (f_Holt_makeUp 10 x1 (2 : Int32) p6).bind (fun p7 => some (Sum.inr (p7.1 10 8), p7))))))
def f_Main_gain (x1 : Int32) (x2 : Int32) (s : lf_S) : Option ((Nat ⊕ Int32) × lf_S) := lf_tb (f_Main_needBed x1 s) (fun v1 s2 => lf_tb (f_Main_needWithin x2 (0 : Int32) (6 : Int32) s2) (fun v3 s4 => (f_Beds_bestCuts (10 + 1) x1 x2 s4).bind (fun p5 => (f_Beds_feetCut (10 + 1) x1 x2 p5 s4).bind (fun p6 => some (Sum.inr p6, s4)))))
def f_Main_cuts (x1 : Int32) (x2 : Int32) (s : lf_S) : Option ((Nat ⊕ Int32) × lf_S) := lf_tb (f_Main_needBed x1 s) (fun v1 s2 => lf_tb (f_Main_needWithin x2 (0 : Int32) (6 : Int32) s2) (fun v3 s4 => (f_Beds_bestCuts (10 + 1) x1 x2 s4).bind (fun p5 => some (Sum.inr p5, s4))))
def f_Main_needTape (x0 : Int32) (s : lf_S) : Option ((Nat ⊕ Unit) × lf_S) := (if x0 = 0 then some (Sum.inl 0, s) else some (Sum.inr (), s))
def f_Ways_tryRods_48 (q_Ways_tryRods : Int32 → Int32 → Int32 → lf_S → Option (lf_S)) (c1 : Int32) (c2 : Int32) (c3 : Int32) (c4 : Int32) : Nat → Int32 → lf_S → Option (lf_S)
  | 0, _, _ => none
  | n + 1, v5, s => (if c2 < v5 then some s else (if (8 : Int32) ≤ v5 then some s else lf_ck v5 8 (fun k5 => (if c3 < ((s.1 7 k5) + c4) then lf_lt (v5 + (1 : Int32)) (fun y6 => f_Ways_tryRods_48 q_Ways_tryRods c1 c2 c3 c4 n y6 s) else lf_ck v5 8 (fun k7 => lf_ck v5 8 (fun k8 => lf_lt (lf_w s 7 k8 ((s.1 7 k7) + c4)) (fun s9 => lf_ck c1 8 (fun k10 => lf_lt (lf_w s9 6 k10 v5) (fun s11 => (q_Ways_tryRods (c1 + (1 : Int32)) (lf_mx c2 (v5 + (1 : Int32))) c3 s11).bind (fun p12 => lf_ck v5 8 (fun k13 => lf_ck v5 8 (fun k14 => lf_lt (lf_w p12 7 k14 ((p12.1 7 k13) - c4)) (fun s15 => lf_lt (v5 + (1 : Int32)) (fun y16 => f_Ways_tryRods_48 q_Ways_tryRods c1 c2 c3 c4 n y16 s15))))))))))))))
def fb_Ways_tryRods (q_Ways_tryRods : Int32 → Int32 → Int32 → lf_S → Option (lf_S)) (x1 : Int32) (x2 : Int32) (x3 : Int32) (s : lf_S) : Option (lf_S) := (if (s.1 3 5) = (-1 : Int32) then (if (s.1 3 0) ≤ x1 then (f_Ways_keepTried x2 s).bind (fun p1 => some p1) else (if x1 < (8 : Int32) then lf_ck x1 40 (fun k2 => lf_lt (s.1 4 k2) (fun y3 => lf_lt (0 : Int32) (fun y4 => (f_Ways_tryRods_48 q_Ways_tryRods x1 x2 x3 y3 5000 y4 s).bind (fun p17 => some p17)))) else (f_Ways_keepTried x2 s).bind (fun p18 => some p18))) else (if x2 < (s.1 3 5) then (if (s.1 3 0) ≤ x1 then (f_Ways_keepTried x2 s).bind (fun p19 => some p19) else (if x1 < (8 : Int32) then lf_ck x1 40 (fun k20 => lf_lt (s.1 4 k20) (fun y21 => lf_lt (0 : Int32) (fun y22 => (f_Ways_tryRods_48 q_Ways_tryRods x1 x2 x3 y21 5000 y22 s).bind (fun p23 => some p23)))) else (f_Ways_keepTried x2 s).bind (fun p24 => some p24))) else some s))
def F_Ways_tryRods : Nat → (Int32 → Int32 → Int32 → lf_S → Option (lf_S))
  | 0 => (fun _ _ _ _ => none)
  | n + 1 => (fb_Ways_tryRods (F_Ways_tryRods n))
def f_Ways_tryRods (x1 : Int32) (x2 : Int32) (x3 : Int32) (s : lf_S) : Option (lf_S) := (F_Ways_tryRods 64) x1 x2 x3 s
def f_Ways_fewestRods (x1 : Int32) (s : lf_S) : Option (Int32 × lf_S) := (f_Ways_beginTrying s).bind (fun p1 => (f_Ways_tryRods (0 : Int32) (0 : Int32) ((12 : Int32) * x1) p1).bind (fun p2 => some ((p2.1 3 5), p2)))
def f_Main_pieces (x1 : Int32) (s : lf_S) : Option ((Nat ⊕ Int32) × lf_S) := (f_Ways_takePieces s).bind (fun p1 => lf_lt p1.1 (fun e2 => lf_tb (f_Main_needFeet x1 p1.2) (fun v3 s4 => lf_tb (f_Main_needTape (lf_i e2) s4) (fun v5 s6 => (f_Ways_fewestRods x1 s6).bind (fun p7 => some (Sum.inr p7.1, p7.2))))))
def f_Main_rod (x1 : Int32) (x2 : Int32) (s : lf_S) : Option ((Nat ⊕ Int32) × lf_S) := (f_Ways_takePieces s).bind (fun p1 => lf_lt p1.1 (fun e2 => lf_tb (f_Main_needFeet x1 p1.2) (fun v3 s4 => lf_tb (f_Main_needTape (lf_i e2) s4) (fun v5 s6 => (f_Ways_fewestRods x1 s6).bind (fun p7 => (if p7.1 = (-1 : Int32) then some (Sum.inr (-1 : Int32), p7.2) else (if x2 < 0 then some (Sum.inr (-1 : Int32), p7.2) else (if x2 < (p7.2.1 3 0) then lf_ck x2 8 (fun k8 => some (Sum.inr (p7.2.1 5 k8), p7.2)) else some (Sum.inr (-1 : Int32), p7.2)))))))))
def f_Main_found (x1 : Int32) (s : lf_S) : Option ((Nat ⊕ Int32) × lf_S) := (f_Ways_takeSeen s).bind (fun p1 => lf_tb (f_Main_needTape (lf_i p1.1) p1.2) (fun v2 s3 => (f_Ways_findWeaves s3).bind (fun p4 => (if x1 = 0 then some (Sum.inr (p4.1 3 6), p4) else (if (p4.1 3 6) ≤ 0 then some (Sum.inr (-1 : Int32), p4) else lf_ck (0 : Int32) 80 (fun k5 => some (Sum.inr (p4.1 8 k5), p4)))))))
def f_Main_look (s : lf_S) : Option ((Nat ⊕ Int32) × lf_S) := (f_Ways_takeSeen s).bind (fun p1 => lf_tb (f_Main_needTape (lf_i p1.1) p1.2) (fun v2 s3 => (f_Ways_findWeaves s3).bind (fun p4 => (f_Ways_placeToLook p4).bind (fun p5 => some (Sum.inr p5, p4)))))
def f_Ways_tryTeam_48 (q_Ways_tryTeam : Nat → Int32 → Int32 → Int32 → lf_S → Option (lf_S)) (a1 : Nat) (c2 : Int32) (c3 : Int32) (c4 : Int32) : Nat → Int32 → lf_S → Option (lf_S)
  | 0, _, _ => none
  | n + 1, v5, s => (if (s.1 (a1 + 18) 0) ≤ v5 then some s else (if ((c3 >>> (v5 &&& 31)) &&& (1 : Int32)) = (1 : Int32) then lf_ck v5 6 (fun k6 => lf_ck (s.1 ((a1 + 18) + 1) k6) 5 (fun k7 => lf_lt (s.1 ((a1 + 6) + 4) k7) (fun y8 => lf_ck c2 8 (fun k9 => lf_lt (lf_w s 6 k9 v5) (fun s10 => lf_ck c2 5 (fun k11 => (q_Ways_tryTeam a1 (c2 + (1 : Int32)) (c3 &&& (((1 : Int32) <<< (v5 &&& 31)) ^^^ (-1 : Int32))) (c4 + ((s10.1 ((a1 + 15) + 1) k11) * y8)) s10).bind (fun p12 => lf_lt (v5 + (1 : Int32)) (fun y13 => f_Ways_tryTeam_48 q_Ways_tryTeam a1 c2 c3 c4 n y13 p12)))))))) else lf_lt (v5 + (1 : Int32)) (fun y5 => f_Ways_tryTeam_48 q_Ways_tryTeam a1 c2 c3 c4 n y5 s)))
def fb_Ways_tryTeam (q_Ways_tryTeam : Nat → Int32 → Int32 → Int32 → lf_S → Option (lf_S)) (a1 : Nat) (x2 : Int32) (x3 : Int32) (x4 : Int32) (s : lf_S) : Option (lf_S) := (if x2 < (s.1 (a1 + 15) 0) then lf_ck x2 8 (fun k1 => lf_lt (lf_w s 6 k1 (-1 : Int32)) (fun s2 => (q_Ways_tryTeam a1 (x2 + (1 : Int32)) x3 x4 s2).bind (fun p3 => lf_lt (0 : Int32) (fun y4 => (f_Ways_tryTeam_48 q_Ways_tryTeam a1 x2 x3 x4 5000 y4 p3).bind (fun p14 => some p14))))) else (if x4 ≤ (s.1 3 5) then some s else (f_Ways_keepTried x4 s).bind (fun p15 => some p15)))
def F_Ways_tryTeam : Nat → (Nat → Int32 → Int32 → Int32 → lf_S → Option (lf_S))
  | 0 => (fun _ _ _ _ _ => none)
  | n + 1 => (fb_Ways_tryTeam (F_Ways_tryTeam n))
def f_Ways_tryTeam (a1 : Nat) (x2 : Int32) (x3 : Int32) (x4 : Int32) (s : lf_S) : Option (lf_S) := (F_Ways_tryTeam 64) a1 x2 x3 x4 s
def f_Ways_bestTeam (a1 : Nat) (s : lf_S) : Option (Int32 × lf_S) := (f_Ways_beginTrying s).bind (fun p1 => (f_Ways_tryTeam a1 (0 : Int32) (p1.1 (a1 + 18) 1) (0 : Int32) p1).bind (fun p2 => some ((p2.1 3 5), p2)))
def f_Main_team (x1 : Int32) (s : lf_S) : Option ((Nat ⊕ Int32) × lf_S) := (if x1 = (-1 : Int32) then (f_Ways_bestTeam 10 s).bind (fun p1 => lf_lt p1.1 (fun y2 => (if x1 = (-1 : Int32) then some (Sum.inr y2, p1.2) else lf_ck x1 8 (fun k3 => some (Sum.inr (p1.2.1 5 k3), p1.2))))) else lf_tb (f_Main_needHand x1 s) (fun v4 s5 => (f_Ways_bestTeam 10 s5).bind (fun p6 => lf_lt p6.1 (fun y7 => (if x1 = (-1 : Int32) then some (Sum.inr y7, p6.2) else lf_ck x1 8 (fun k8 => some (Sum.inr (p6.2.1 5 k8), p6.2)))))))
def f_Ways_tryPairs_47 (q_Ways_tryPairs : Nat → Int32 → Int32 → lf_S → Option (lf_S)) (a1 : Nat) (c2 : Int32) (c3 : Int32) : Nat → Int32 → lf_S → Option (lf_S)
  | 0, _, _ => none
  | n + 1, v4, s => (if (s.1 a1 0) ≤ v4 then some s else lf_ck v4 8 (fun k4 => (if (s.1 6 k4) = (-1 : Int32) then lf_ck c2 6 (fun k6 => lf_ck v4 6 (fun k7 => (if (s.1 (a1 + 1) k6) = (s.1 (a1 + 1) k7) then lf_lt (v4 + (1 : Int32)) (fun y8 => f_Ways_tryPairs_47 q_Ways_tryPairs a1 c2 c3 n y8 s) else lf_ck c2 8 (fun k9 => lf_lt (lf_w s 6 k9 v4) (fun s10 => lf_ck v4 8 (fun k11 => lf_lt (lf_w s10 6 k11 c2) (fun s12 => lf_ck c2 6 (fun k13 => lf_ck v4 6 (fun k14 => (q_Ways_tryPairs a1 (c2 + (1 : Int32)) ((c3 + (s12.1 (a1 + 3) k13)) + (s12.1 (a1 + 3) k14)) s12).bind (fun p15 => lf_ck c2 8 (fun k16 => lf_lt (lf_w p15 6 k16 (-1 : Int32)) (fun s17 => lf_ck v4 8 (fun k18 => lf_lt (lf_w s17 6 k18 (-1 : Int32)) (fun s19 => lf_lt (v4 + (1 : Int32)) (fun y20 => f_Ways_tryPairs_47 q_Ways_tryPairs a1 c2 c3 n y20 s19))))))))))))))) else lf_lt (v4 + (1 : Int32)) (fun y5 => f_Ways_tryPairs_47 q_Ways_tryPairs a1 c2 c3 n y5 s))))
def fb_Ways_tryPairs (q_Ways_tryPairs : Nat → Int32 → Int32 → lf_S → Option (lf_S)) (a1 : Nat) (x2 : Int32) (x3 : Int32) (s : lf_S) : Option (lf_S) := (if x2 < (s.1 a1 0) then (q_Ways_tryPairs a1 (x2 + (1 : Int32)) x3 s).bind (fun p1 => lf_ck x2 8 (fun k2 => (if (p1.1 6 k2) = (-1 : Int32) then lf_lt (x2 + (1 : Int32)) (fun y3 => (f_Ways_tryPairs_47 q_Ways_tryPairs a1 x2 x3 5000 y3 p1).bind (fun p21 => some p21)) else some p1))) else (if x3 ≤ (s.1 3 5) then some s else (f_Ways_keepTried x3 s).bind (fun p22 => some p22)))
def F_Ways_tryPairs : Nat → (Nat → Int32 → Int32 → lf_S → Option (lf_S))
  | 0 => (fun _ _ _ _ => none)
  | n + 1 => (fb_Ways_tryPairs (F_Ways_tryPairs n))
def f_Ways_tryPairs (a1 : Nat) (x2 : Int32) (x3 : Int32) (s : lf_S) : Option (lf_S) := (F_Ways_tryPairs 64) a1 x2 x3 s
def f_Ways_bestPairs (a1 : Nat) (s : lf_S) : Option (Int32 × lf_S) := (f_Ways_beginTrying s).bind (fun p1 => (f_Ways_tryPairs a1 (0 : Int32) (0 : Int32) p1).bind (fun p2 => some ((p2.1 3 5), p2)))
def f_Main_pairs (x1 : Int32) (s : lf_S) : Option ((Nat ⊕ Int32) × lf_S) := (if x1 = (-1 : Int32) then (f_Ways_bestPairs (10 + 1) s).bind (fun p1 => lf_lt p1.1 (fun y2 => (if x1 = (-1 : Int32) then some (Sum.inr y2, p1.2) else lf_ck x1 8 (fun k3 => some (Sum.inr (p1.2.1 5 k3), p1.2))))) else lf_tb (f_Main_needBed x1 s) (fun v4 s5 => (f_Ways_bestPairs (10 + 1) s5).bind (fun p6 => lf_lt p6.1 (fun y7 => (if x1 = (-1 : Int32) then some (Sum.inr y7, p6.2) else lf_ck x1 8 (fun k8 => some (Sum.inr (p6.2.1 5 k8), p6.2)))))))
def f_Main_change (x1 : Int32) (x2 : Int32) (s : lf_S) : Option ((Nat ⊕ Int32) × lf_S) := lf_tb (f_Main_needBasket x1 s) (fun v1 s2 => lf_tb (f_Main_needBasket x2 s2) (fun v3 s4 => (f_Ways_steps (10 + 6) x1 x2 s4).bind (fun p5 => some (Sum.inr p5.1, p5.2))))
def f_Main_share (x1 : Int32) (x2 : Int32) (s : lf_S) : Option ((Nat ⊕ Int32) × lf_S) := lf_tb (f_Main_needHand x1 s) (fun v1 s2 => lf_tb (f_Main_needWithin x2 (0 : Int32) (99 : Int32) s2) (fun v3 s4 => (f_Ways_giveBundles (10 + 15) x2 s4).bind (fun p5 => lf_ck x1 8 (fun k6 => some (Sum.inr (p5.1 7 k6), p5)))))
def f_Main_price (x1 : Int32) (s : lf_S) : Option ((Nat ⊕ Int32) × lf_S) := lf_tb (f_Main_needFeet x1 s) (fun v1 s2 => (f_Baskets_bestPrice (10 + 6) x1 s2).bind (fun p3 => some (Sum.inr p3, s2)))
def f_Main_rests (x1 : Int32) (s : lf_S) : Option ((Nat ⊕ Int32) × lf_S) := lf_tb (f_Main_needBed x1 s) (fun v1 s2 => (f_Law_reachOf 34 10 x1 s2).bind (fun p3 => lf_lt p3.1 (fun y4 => lf_ck x1 6 (fun k5 => lf_lt ((0 : Int32) - (p3.2.1 ((10 + 1) + 4) k5)) (fun y6 => lf_ck x1 6 (fun k7 => lf_lt (p3.2.1 ((10 + 1) + 2) k7) (fun y8 => (f_Main_restBit (0 : Int32) y4 y6 (1 : Int32) (0 : Int32)).bind (fun p9 => (f_Main_restBit (1 : Int32) (y4 + (2 : Int32)) y8 (0 : Int32) (1 : Int32)).bind (fun p10 => (f_Main_restBit (2 : Int32) y6 y4 (3 : Int32) (2 : Int32)).bind (fun p11 => (f_Main_restBit (3 : Int32) y8 (y4 + (2 : Int32)) (2 : Int32) (3 : Int32)).bind (fun p12 => some (Sum.inr (((p9 ||| p10) ||| p11) ||| p12), p3.2))))))))))))
def f_Main_odds_17 (c1 : Int32) (c2 : Int32) : Nat → Int64 → Int32 → lf_S → Option (Int64 × lf_S)
  | 0, _, _, _ => none
  | n + 1, v3, v5, s => (if ((1 : Int32) <<< (c1 &&& 31)) ≤ v5 then some (v3, s) else (f_JInt_bitCount v5).bind (fun p7 => (if p7 < c2 then lf_lt (v5 + (1 : Int32)) (fun y8 => f_Main_odds_17 c1 c2 n v3 y8 s) else (f_Main_chanceOf v5 c1 s).bind (fun p9 => lf_lt (v3 + p9) (fun l10 => lf_lt (v5 + (1 : Int32)) (fun y11 => f_Main_odds_17 c1 c2 n l10 y11 s))))))
def f_Main_odds_56 (c1 : Int32) (c3 : Int64) : Nat → Int64 → Int32 → lf_S → Option (Int64 × lf_S)
  | 0, _, _, _ => none
  | n + 1, v5, v7, s => (if c1 ≤ v7 then some (v5, s) else lf_lt (v5 * (100 : Int64)) (fun l16 => lf_lt (v7 + (1 : Int32)) (fun y17 => f_Main_odds_56 c1 c3 n l16 y17 s)))
def f_Main_odds (x1 : Int32) (x2 : Int32) (s : lf_S) : Option ((Nat ⊕ Int32) × lf_S) := lf_tb (f_Main_needWithin x1 (0 : Int32) (5 : Int32) s) (fun v1 s2 => lf_tb (f_Main_needWithin x2 (0 : Int32) (5 : Int32) s2) (fun v3 s4 => lf_lt (0 : Int64) (fun l5 => lf_lt (0 : Int32) (fun y6 => (f_Main_odds_17 x1 x2 5000 l5 y6 s4).bind (fun p12 => lf_lt (1 : Int64) (fun l14 => lf_lt (0 : Int32) (fun y15 => (f_Main_odds_56 x1 p12.1 5000 l14 y15 p12.2).bind (fun p18 => lf_nzl p18.1 (some (Sum.inr (((p12.1 * (10000 : Int64)) / p18.1)).toInt32, p18.2))))))))))
def f_Main_most (x1 : Int32) (s : lf_S) : Option ((Nat ⊕ Int32) × lf_S) := lf_lt x1 (fun y1 => (if y1 = (0 : Int32) then (f_Main_firstGreatest ((10 + 1) + 2) 6 (s.1 (10 + 1) 0) s).bind (fun p2 => some (Sum.inr p2, s)) else (if y1 = (1 : Int32) then (f_Main_firstGreatest ((10 + 6) + 4) 5 (s.1 (10 + 6) 0) s).bind (fun p3 => some (Sum.inr p3, s)) else (if y1 = (2 : Int32) then (f_Main_firstGreatest ((10 + 15) + 1) 5 (s.1 (10 + 15) 0) s).bind (fun p4 => some (Sum.inr p4, s)) else some (Sum.inl 2, s)))))
def f_Main_sort (x1 : Int32) (s : lf_S) : Option ((Nat ⊕ Int32) × lf_S) := lf_tb (f_Main_needIndex x1 (0 : Int32) (2 : Int32) s) (fun v1 s2 => (f_Beds_ofSort (10 + 1) x1 s2).bind (fun p3 => some (Sum.inr p3, s2)))
def f_Main_ahead (x1 : Int32) (x2 : Int32) (x3 : Int32) (s : lf_S) : Option ((Nat ⊕ Int32) × lf_S) := lf_tb (f_Main_needBed x1 s) (fun v1 s2 => lf_tb (f_Main_needWithin x2 (0 : Int32) (60 : Int32) s2) (fun v3 s4 => (if x3 = 0 then lf_ck x1 6 (fun k5 => some (Sum.inr (lf_mn ((s4.1 ((10 + 1) + 2) k5) + x2) (9 : Int32)), s4)) else (f_Beds_stoolsAhead (10 + 1) x1 x2 s4).bind (fun p6 => some (Sum.inr p6, s4)))))
def f_Main_trial (x1 : Int32) (x2 : Int32) (s : lf_S) : Option ((Nat ⊕ Int32) × lf_S) := lf_tb (f_Main_needWithin x1 (0 : Int32) (60 : Int32) s) (fun v1 s2 => (f_Holt_copy 40 10 s2).bind (fun p3 => (f_Holt_passYears 40 x1 p3).bind (fun p4 => (if x2 = 0 then some (Sum.inr (p4.2.1 40 8), p4.2) else some (Sum.inr (p4.2.1 (40 + 18) 1), p4.2)))))
def f_Main_span_12 (c1 : Int32) (c2 : Int32) : Nat → Int32 → Int32 → lf_S → Option (Int32 × lf_S)
  | 0, _, _, _ => none
  | n + 1, v3, v4, s => (if (6 : Int32) < v4 then some (v3, s) else (f_Holt_copy 40 10 s).bind (fun p5 => lf_lt (lf_w p5 40 10 v4) (fun s6 => (f_Holt_passYears 40 c1 s6).bind (fun p7 => (if v3 = (-1 : Int32) then lf_lt (p7.2.1 40 8) (fun y8 => lf_lt (v4 + (1 : Int32)) (fun y9 => f_Main_span_12 c1 c2 n y8 y9 p7.2)) else (if c2 = 0 then (if v3 ≤ (p7.2.1 40 8) then lf_lt (v4 + (1 : Int32)) (fun y10 => f_Main_span_12 c1 c2 n v3 y10 p7.2) else lf_lt (p7.2.1 40 8) (fun y11 => lf_lt (v4 + (1 : Int32)) (fun y12 => f_Main_span_12 c1 c2 n y11 y12 p7.2))) else (if (p7.2.1 40 8) ≤ v3 then lf_lt (v4 + (1 : Int32)) (fun y13 => f_Main_span_12 c1 c2 n v3 y13 p7.2) else lf_lt (p7.2.1 40 8) (fun y14 => lf_lt (v4 + (1 : Int32)) (fun y15 => f_Main_span_12 c1 c2 n y14 y15 p7.2)))))))))
def f_Main_span (x1 : Int32) (x2 : Int32) (s : lf_S) : Option ((Nat ⊕ Int32) × lf_S) := lf_tb (f_Main_needWithin x1 (0 : Int32) (60 : Int32) s) (fun v1 s2 => lf_lt (-1 : Int32) (fun y3 => lf_lt (1 : Int32) (fun y4 => (f_Main_span_12 x1 x2 5000 y3 y4 s2).bind (fun p16 => some (Sum.inr p16.1, p16.2)))))
def f_Main_led (x1 : Int32) (x2 : Int32) (s : lf_S) : Option ((Nat ⊕ Int32) × lf_S) := lf_tb (f_Main_needBed x1 s) (fun v1 s2 => (if x2 = 0 then (f_Log_cutsOf (10 + 21) x1 s2).bind (fun p3 => some (Sum.inr p3, s2)) else (f_Log_latestCut (10 + 21) x1 s2).bind (fun p4 => some (Sum.inr p4, s2))))
def f_Main_log (x1 : Int32) (x2 : Int32) (s : lf_S) : Option ((Nat ⊕ Int32) × lf_S) := (if x2 < 0 then some (Sum.inl 2, s) else (if x2 < (4 : Int32) then (f_Log_cellOf (10 + 21) x1 x2 s).bind (fun p1 => some (Sum.inr p1, s)) else some (Sum.inl 2, s)))
def f_Mod_some_5 (q_Mod_some : lf_S → Option (Bool × lf_S)) (q_Mod_every : lf_S → Option (Bool × lf_S)) (q_Mod_atom : lf_S → Option (Bool × lf_S)) : Nat → Int32 → lf_S → Option (Int32 × lf_S)
  | 0, _, _ => none
  | n + 1, v1, s => (if (s.1 389 12) = (-1 : Int32) then (f_Mod_has 27 s).bind (fun p3 => (if p3.1 = true then (q_Mod_every p3.2).bind (fun p4 => lf_lt p4.1 (fun e5 => (if v1 = 0 then (if e5 = true then lf_lt (1 : Int32) (fun y8 => f_Mod_some_5 q_Mod_some q_Mod_every q_Mod_atom n y8 p4.2) else lf_lt (0 : Int32) (fun y7 => f_Mod_some_5 q_Mod_some q_Mod_every q_Mod_atom n y7 p4.2)) else lf_lt (1 : Int32) (fun y6 => f_Mod_some_5 q_Mod_some q_Mod_every q_Mod_atom n y6 p4.2)))) else some (v1, p3.2))) else some (v1, s))
def fb_Mod_some (q_Mod_some : lf_S → Option (Bool × lf_S)) (q_Mod_every : lf_S → Option (Bool × lf_S)) (q_Mod_atom : lf_S → Option (Bool × lf_S)) (s : lf_S) : Option (Bool × lf_S) := (q_Mod_every s).bind (fun p1 => lf_lt p1.1 (fun e2 => (f_Mod_some_5 q_Mod_some q_Mod_every q_Mod_atom 5000 (lf_i e2) p1.2).bind (fun p9 => (lf_rb p9.1).bind (fun q10 => some (q10, p9.2)))))
def f_Mod_every_5 (q_Mod_some : lf_S → Option (Bool × lf_S)) (q_Mod_every : lf_S → Option (Bool × lf_S)) (q_Mod_atom : lf_S → Option (Bool × lf_S)) : Nat → Int32 → lf_S → Option (Int32 × lf_S)
  | 0, _, _ => none
  | n + 1, v1, s => (if (s.1 389 12) = (-1 : Int32) then (f_Mod_has 26 s).bind (fun p3 => (if p3.1 = true then (q_Mod_atom p3.2).bind (fun p4 => lf_lt p4.1 (fun e5 => (if v1 = 0 then lf_lt (0 : Int32) (fun y6 => f_Mod_every_5 q_Mod_some q_Mod_every q_Mod_atom n y6 p4.2) else (if e5 = true then lf_lt (1 : Int32) (fun y8 => f_Mod_every_5 q_Mod_some q_Mod_every q_Mod_atom n y8 p4.2) else lf_lt (0 : Int32) (fun y7 => f_Mod_every_5 q_Mod_some q_Mod_every q_Mod_atom n y7 p4.2))))) else some (v1, p3.2))) else some (v1, s))
def fb_Mod_every (q_Mod_some : lf_S → Option (Bool × lf_S)) (q_Mod_every : lf_S → Option (Bool × lf_S)) (q_Mod_atom : lf_S → Option (Bool × lf_S)) (s : lf_S) : Option (Bool × lf_S) := (q_Mod_atom s).bind (fun p1 => lf_lt p1.1 (fun e2 => (f_Mod_every_5 q_Mod_some q_Mod_every q_Mod_atom 5000 (lf_i e2) p1.2).bind (fun p9 => (lf_rb p9.1).bind (fun q10 => some (q10, p9.2)))))
def fb_Mod_atom (q_Mod_some : lf_S → Option (Bool × lf_S)) (q_Mod_every : lf_S → Option (Bool × lf_S)) (q_Mod_atom : lf_S → Option (Bool × lf_S)) (s : lf_S) : Option (Bool × lf_S) := (if (s.1 389 12) = (-1 : Int32) then (f_Mod_here s).bind (fun p1 => lf_lt p1.1 (fun y2 => (f_Mod_has 25 p1.2).bind (fun p3 => lf_lt p3.1 (fun e4 => (if e4 = true then (if (p3.2.1 389 13) = (6 : Int32) then (f_Mod_wrong y2 p3.2).bind (fun p25 => some (false, p25)) else lf_lt (lf_w p3.2 389 13 ((p3.2.1 389 13) + (1 : Int32))) (fun s5 => lf_lt (0 : Int32) (fun y6 => (if e4 = true then (q_Mod_atom s5).bind (fun p18 => (if p18.1 = true then lf_lt (0 : Int32) (fun y19 => lf_lt (lf_w p18.2 389 13 ((p18.2.1 389 13) - (1 : Int32))) (fun s20 => (lf_rb y19).bind (fun q21 => some (q21, s20)))) else lf_lt (1 : Int32) (fun y22 => lf_lt (lf_w p18.2 389 13 ((p18.2.1 389 13) - (1 : Int32))) (fun s23 => (lf_rb y22).bind (fun q24 => some (q24, s23)))))) else lf_lt (lf_w s5 389 11 ((s5.1 389 11) + (1 : Int32))) (fun s7 => (q_Mod_some s7).bind (fun p8 => lf_lt p8.1 (fun e9 => (if (p8.2.1 389 12) = (-1 : Int32) then (f_Mod_isSign (41 : Int32) p8.2).bind (fun p12 => (if p12.1 = true then lf_lt (lf_w p12.2 389 11 ((p12.2.1 389 11) + (1 : Int32))) (fun s13 => lf_lt (lf_w s13 389 13 ((s13.1 389 13) - (1 : Int32))) (fun s14 => some (e9, s14))) else (f_Mod_wrong (p12.2.1 389 11) p12.2).bind (fun p15 => lf_lt (lf_w p15 389 11 ((p15.1 389 11) + (1 : Int32))) (fun s16 => lf_lt (lf_w s16 389 13 ((s16.1 389 13) - (1 : Int32))) (fun s17 => some (e9, s17)))))) else lf_lt (lf_w p8.2 389 11 ((p8.2.1 389 11) + (1 : Int32))) (fun s10 => lf_lt (lf_w s10 389 13 ((s10.1 389 13) - (1 : Int32))) (fun s11 => some (e9, s11))))))))))) else (f_Mod_isSign (40 : Int32) p3.2).bind (fun p26 => (if p26.1 = true then (if (p26.2.1 389 13) = (6 : Int32) then (f_Mod_wrong y2 p26.2).bind (fun p47 => some (false, p47)) else lf_lt (lf_w p26.2 389 13 ((p26.2.1 389 13) + (1 : Int32))) (fun s27 => lf_lt (0 : Int32) (fun y28 => (if e4 = true then (q_Mod_atom s27).bind (fun p40 => (if p40.1 = true then lf_lt (0 : Int32) (fun y41 => lf_lt (lf_w p40.2 389 13 ((p40.2.1 389 13) - (1 : Int32))) (fun s42 => (lf_rb y41).bind (fun q43 => some (q43, s42)))) else lf_lt (1 : Int32) (fun y44 => lf_lt (lf_w p40.2 389 13 ((p40.2.1 389 13) - (1 : Int32))) (fun s45 => (lf_rb y44).bind (fun q46 => some (q46, s45)))))) else lf_lt (lf_w s27 389 11 ((s27.1 389 11) + (1 : Int32))) (fun s29 => (q_Mod_some s29).bind (fun p30 => lf_lt p30.1 (fun e31 => (if (p30.2.1 389 12) = (-1 : Int32) then (f_Mod_isSign (41 : Int32) p30.2).bind (fun p34 => (if p34.1 = true then lf_lt (lf_w p34.2 389 11 ((p34.2.1 389 11) + (1 : Int32))) (fun s35 => lf_lt (lf_w s35 389 13 ((s35.1 389 13) - (1 : Int32))) (fun s36 => some (e31, s36))) else (f_Mod_wrong (p34.2.1 389 11) p34.2).bind (fun p37 => lf_lt (lf_w p37 389 11 ((p37.1 389 11) + (1 : Int32))) (fun s38 => lf_lt (lf_w s38 389 13 ((s38.1 389 13) - (1 : Int32))) (fun s39 => some (e31, s39)))))) else lf_lt (lf_w p30.2 389 11 ((p30.2.1 389 11) + (1 : Int32))) (fun s32 => lf_lt (lf_w s32 389 13 ((s32.1 389 13) - (1 : Int32))) (fun s33 => some (e31, s33))))))))))) else (f_Mod_plain p26.2).bind (fun p48 => some (p48.1, p48.2))))))))) else some (false, s))
def F_Mod_some : Nat → (lf_S → Option (Bool × lf_S)) × (lf_S → Option (Bool × lf_S)) × (lf_S → Option (Bool × lf_S))
  | 0 => (fun _ => none, fun _ => none, fun _ => none)
  | n + 1 => (fb_Mod_some (F_Mod_some n).1 (F_Mod_some n).2.1 (F_Mod_some n).2.2, fb_Mod_every (F_Mod_some n).1 (F_Mod_some n).2.1 (F_Mod_some n).2.2, fb_Mod_atom (F_Mod_some n).1 (F_Mod_some n).2.1 (F_Mod_some n).2.2)
def f_Mod_some (s : lf_S) : Option (Bool × lf_S) := (F_Mod_some 64).1 s
def f_Mod_every (s : lf_S) : Option (Bool × lf_S) := (F_Mod_some 64).2.1 s
def f_Mod_atom (s : lf_S) : Option (Bool × lf_S) := (F_Mod_some 64).2.2 s
def f_Mod_lawLine (s : lf_S) : Option (lf_S) := (f_Mod_has 28 s).bind (fun p1 => (if p1.1 = true then lf_lt (0 : Int32) (fun y112 => (if y112 = (-1 : Int32) then (f_Mod_wrong (p1.2.1 389 11) p1.2).bind (fun p147 => some p147) else (f_Mod_figures (0 : Int32) (99 : Int32) p1.2).bind (fun p113 => lf_lt p113.1 (fun y114 => (if (p113.2.1 389 12) = (-1 : Int32) then (f_Mod_has 31 p113.2).bind (fun p115 => (if p115.1 = true then (f_Mod_some p115.2).bind (fun p126 => (if p126.1 = true then lf_lt (1 : Int32) (fun y137 => (if (p126.2.1 389 12) = (-1 : Int32) then (if y137 = 0 then some p126.2 else (if y112 = 0 then lf_lt (lf_w p126.2 389 15 ((p126.2.1 389 15) + y114)) (fun s144 => (if y112 = (2 : Int32) then lf_lt (lf_w s144 389 16 ((s144.1 389 16) + y114)) (fun s146 => some s146) else lf_lt (lf_w s144 389 16 ((s144.1 389 16) + (0 : Int32))) (fun s145 => some s145))) else (if y112 = (1 : Int32) then lf_lt (lf_w p126.2 389 15 ((p126.2.1 389 15) + (-y114))) (fun s141 => (if y112 = (2 : Int32) then lf_lt (lf_w s141 389 16 ((s141.1 389 16) + y114)) (fun s143 => some s143) else lf_lt (lf_w s141 389 16 ((s141.1 389 16) + (0 : Int32))) (fun s142 => some s142))) else lf_lt (lf_w p126.2 389 15 ((p126.2.1 389 15) + (0 : Int32))) (fun s138 => (if y112 = (2 : Int32) then lf_lt (lf_w s138 389 16 ((s138.1 389 16) + y114)) (fun s140 => some s140) else lf_lt (lf_w s138 389 16 ((s138.1 389 16) + (0 : Int32))) (fun s139 => some s139)))))) else some p126.2)) else lf_lt (0 : Int32) (fun y127 => (if (p126.2.1 389 12) = (-1 : Int32) then (if y127 = 0 then some p126.2 else (if y112 = 0 then lf_lt (lf_w p126.2 389 15 ((p126.2.1 389 15) + y114)) (fun s134 => (if y112 = (2 : Int32) then lf_lt (lf_w s134 389 16 ((s134.1 389 16) + y114)) (fun s136 => some s136) else lf_lt (lf_w s134 389 16 ((s134.1 389 16) + (0 : Int32))) (fun s135 => some s135))) else (if y112 = (1 : Int32) then lf_lt (lf_w p126.2 389 15 ((p126.2.1 389 15) + (-y114))) (fun s131 => (if y112 = (2 : Int32) then lf_lt (lf_w s131 389 16 ((s131.1 389 16) + y114)) (fun s133 => some s133) else lf_lt (lf_w s131 389 16 ((s131.1 389 16) + (0 : Int32))) (fun s132 => some s132))) else lf_lt (lf_w p126.2 389 15 ((p126.2.1 389 15) + (0 : Int32))) (fun s128 => (if y112 = (2 : Int32) then lf_lt (lf_w s128 389 16 ((s128.1 389 16) + y114)) (fun s130 => some s130) else lf_lt (lf_w s128 389 16 ((s128.1 389 16) + (0 : Int32))) (fun s129 => some s129)))))) else some p126.2)))) else lf_lt (1 : Int32) (fun y116 => (if (p115.2.1 389 12) = (-1 : Int32) then (if y116 = 0 then some p115.2 else (if y112 = 0 then lf_lt (lf_w p115.2 389 15 ((p115.2.1 389 15) + y114)) (fun s123 => (if y112 = (2 : Int32) then lf_lt (lf_w s123 389 16 ((s123.1 389 16) + y114)) (fun s125 => some s125) else lf_lt (lf_w s123 389 16 ((s123.1 389 16) + (0 : Int32))) (fun s124 => some s124))) else (if y112 = (1 : Int32) then lf_lt (lf_w p115.2 389 15 ((p115.2.1 389 15) + (-y114))) (fun s120 => (if y112 = (2 : Int32) then lf_lt (lf_w s120 389 16 ((s120.1 389 16) + y114)) (fun s122 => some s122) else lf_lt (lf_w s120 389 16 ((s120.1 389 16) + (0 : Int32))) (fun s121 => some s121))) else lf_lt (lf_w p115.2 389 15 ((p115.2.1 389 15) + (0 : Int32))) (fun s117 => (if y112 = (2 : Int32) then lf_lt (lf_w s117 389 16 ((s117.1 389 16) + y114)) (fun s119 => some s119) else lf_lt (lf_w s117 389 16 ((s117.1 389 16) + (0 : Int32))) (fun s118 => some s118)))))) else some p115.2)))) else some p113.2))))) else (f_Mod_has 29 p1.2).bind (fun p2 => (if p2.1 = true then lf_lt (1 : Int32) (fun y76 => (if y76 = (-1 : Int32) then (f_Mod_wrong (p2.2.1 389 11) p2.2).bind (fun p111 => some p111) else (f_Mod_figures (0 : Int32) (99 : Int32) p2.2).bind (fun p77 => lf_lt p77.1 (fun y78 => (if (p77.2.1 389 12) = (-1 : Int32) then (f_Mod_has 31 p77.2).bind (fun p79 => (if p79.1 = true then (f_Mod_some p79.2).bind (fun p90 => (if p90.1 = true then lf_lt (1 : Int32) (fun y101 => (if (p90.2.1 389 12) = (-1 : Int32) then (if y101 = 0 then some p90.2 else (if y76 = 0 then lf_lt (lf_w p90.2 389 15 ((p90.2.1 389 15) + y78)) (fun s108 => (if y76 = (2 : Int32) then lf_lt (lf_w s108 389 16 ((s108.1 389 16) + y78)) (fun s110 => some s110) else lf_lt (lf_w s108 389 16 ((s108.1 389 16) + (0 : Int32))) (fun s109 => some s109))) else (if y76 = (1 : Int32) then lf_lt (lf_w p90.2 389 15 ((p90.2.1 389 15) + (-y78))) (fun s105 => (if y76 = (2 : Int32) then lf_lt (lf_w s105 389 16 ((s105.1 389 16) + y78)) (fun s107 => some s107) else lf_lt (lf_w s105 389 16 ((s105.1 389 16) + (0 : Int32))) (fun s106 => some s106))) else lf_lt (lf_w p90.2 389 15 ((p90.2.1 389 15) + (0 : Int32))) (fun s102 => (if y76 = (2 : Int32) then lf_lt (lf_w s102 389 16 ((s102.1 389 16) + y78)) (fun s104 => some s104) else lf_lt (lf_w s102 389 16 ((s102.1 389 16) + (0 : Int32))) (fun s103 => some s103)))))) else some p90.2)) else lf_lt (0 : Int32) (fun y91 => (if (p90.2.1 389 12) = (-1 : Int32) then (if y91 = 0 then some p90.2 else (if y76 = 0 then lf_lt (lf_w p90.2 389 15 ((p90.2.1 389 15) + y78)) (fun s98 => (if y76 = (2 : Int32) then lf_lt (lf_w s98 389 16 ((s98.1 389 16) + y78)) (fun s100 => some s100) else lf_lt (lf_w s98 389 16 ((s98.1 389 16) + (0 : Int32))) (fun s99 => some s99))) else (if y76 = (1 : Int32) then lf_lt (lf_w p90.2 389 15 ((p90.2.1 389 15) + (-y78))) (fun s95 => (if y76 = (2 : Int32) then lf_lt (lf_w s95 389 16 ((s95.1 389 16) + y78)) (fun s97 => some s97) else lf_lt (lf_w s95 389 16 ((s95.1 389 16) + (0 : Int32))) (fun s96 => some s96))) else lf_lt (lf_w p90.2 389 15 ((p90.2.1 389 15) + (0 : Int32))) (fun s92 => (if y76 = (2 : Int32) then lf_lt (lf_w s92 389 16 ((s92.1 389 16) + y78)) (fun s94 => some s94) else lf_lt (lf_w s92 389 16 ((s92.1 389 16) + (0 : Int32))) (fun s93 => some s93)))))) else some p90.2)))) else lf_lt (1 : Int32) (fun y80 => (if (p79.2.1 389 12) = (-1 : Int32) then (if y80 = 0 then some p79.2 else (if y76 = 0 then lf_lt (lf_w p79.2 389 15 ((p79.2.1 389 15) + y78)) (fun s87 => (if y76 = (2 : Int32) then lf_lt (lf_w s87 389 16 ((s87.1 389 16) + y78)) (fun s89 => some s89) else lf_lt (lf_w s87 389 16 ((s87.1 389 16) + (0 : Int32))) (fun s88 => some s88))) else (if y76 = (1 : Int32) then lf_lt (lf_w p79.2 389 15 ((p79.2.1 389 15) + (-y78))) (fun s84 => (if y76 = (2 : Int32) then lf_lt (lf_w s84 389 16 ((s84.1 389 16) + y78)) (fun s86 => some s86) else lf_lt (lf_w s84 389 16 ((s84.1 389 16) + (0 : Int32))) (fun s85 => some s85))) else lf_lt (lf_w p79.2 389 15 ((p79.2.1 389 15) + (0 : Int32))) (fun s81 => (if y76 = (2 : Int32) then lf_lt (lf_w s81 389 16 ((s81.1 389 16) + y78)) (fun s83 => some s83) else lf_lt (lf_w s81 389 16 ((s81.1 389 16) + (0 : Int32))) (fun s82 => some s82)))))) else some p79.2)))) else some p77.2))))) else (f_Mod_has 30 p2.2).bind (fun p3 => (if p3.1 = true then lf_lt (2 : Int32) (fun y40 => (if y40 = (-1 : Int32) then (f_Mod_wrong (p3.2.1 389 11) p3.2).bind (fun p75 => some p75) else (f_Mod_figures (0 : Int32) (99 : Int32) p3.2).bind (fun p41 => lf_lt p41.1 (fun y42 => (if (p41.2.1 389 12) = (-1 : Int32) then (f_Mod_has 31 p41.2).bind (fun p43 => (if p43.1 = true then (f_Mod_some p43.2).bind (fun p54 => (if p54.1 = true then lf_lt (1 : Int32) (fun y65 => (if (p54.2.1 389 12) = (-1 : Int32) then (if y65 = 0 then some p54.2 else (if y40 = 0 then lf_lt (lf_w p54.2 389 15 ((p54.2.1 389 15) + y42)) (fun s72 => (if y40 = (2 : Int32) then lf_lt (lf_w s72 389 16 ((s72.1 389 16) + y42)) (fun s74 => some s74) else lf_lt (lf_w s72 389 16 ((s72.1 389 16) + (0 : Int32))) (fun s73 => some s73))) else (if y40 = (1 : Int32) then lf_lt (lf_w p54.2 389 15 ((p54.2.1 389 15) + (-y42))) (fun s69 => (if y40 = (2 : Int32) then lf_lt (lf_w s69 389 16 ((s69.1 389 16) + y42)) (fun s71 => some s71) else lf_lt (lf_w s69 389 16 ((s69.1 389 16) + (0 : Int32))) (fun s70 => some s70))) else lf_lt (lf_w p54.2 389 15 ((p54.2.1 389 15) + (0 : Int32))) (fun s66 => (if y40 = (2 : Int32) then lf_lt (lf_w s66 389 16 ((s66.1 389 16) + y42)) (fun s68 => some s68) else lf_lt (lf_w s66 389 16 ((s66.1 389 16) + (0 : Int32))) (fun s67 => some s67)))))) else some p54.2)) else lf_lt (0 : Int32) (fun y55 => (if (p54.2.1 389 12) = (-1 : Int32) then (if y55 = 0 then some p54.2 else (if y40 = 0 then lf_lt (lf_w p54.2 389 15 ((p54.2.1 389 15) + y42)) (fun s62 => (if y40 = (2 : Int32) then lf_lt (lf_w s62 389 16 ((s62.1 389 16) + y42)) (fun s64 => some s64) else lf_lt (lf_w s62 389 16 ((s62.1 389 16) + (0 : Int32))) (fun s63 => some s63))) else (if y40 = (1 : Int32) then lf_lt (lf_w p54.2 389 15 ((p54.2.1 389 15) + (-y42))) (fun s59 => (if y40 = (2 : Int32) then lf_lt (lf_w s59 389 16 ((s59.1 389 16) + y42)) (fun s61 => some s61) else lf_lt (lf_w s59 389 16 ((s59.1 389 16) + (0 : Int32))) (fun s60 => some s60))) else lf_lt (lf_w p54.2 389 15 ((p54.2.1 389 15) + (0 : Int32))) (fun s56 => (if y40 = (2 : Int32) then lf_lt (lf_w s56 389 16 ((s56.1 389 16) + y42)) (fun s58 => some s58) else lf_lt (lf_w s56 389 16 ((s56.1 389 16) + (0 : Int32))) (fun s57 => some s57)))))) else some p54.2)))) else lf_lt (1 : Int32) (fun y44 => (if (p43.2.1 389 12) = (-1 : Int32) then (if y44 = 0 then some p43.2 else (if y40 = 0 then lf_lt (lf_w p43.2 389 15 ((p43.2.1 389 15) + y42)) (fun s51 => (if y40 = (2 : Int32) then lf_lt (lf_w s51 389 16 ((s51.1 389 16) + y42)) (fun s53 => some s53) else lf_lt (lf_w s51 389 16 ((s51.1 389 16) + (0 : Int32))) (fun s52 => some s52))) else (if y40 = (1 : Int32) then lf_lt (lf_w p43.2 389 15 ((p43.2.1 389 15) + (-y42))) (fun s48 => (if y40 = (2 : Int32) then lf_lt (lf_w s48 389 16 ((s48.1 389 16) + y42)) (fun s50 => some s50) else lf_lt (lf_w s48 389 16 ((s48.1 389 16) + (0 : Int32))) (fun s49 => some s49))) else lf_lt (lf_w p43.2 389 15 ((p43.2.1 389 15) + (0 : Int32))) (fun s45 => (if y40 = (2 : Int32) then lf_lt (lf_w s45 389 16 ((s45.1 389 16) + y42)) (fun s47 => some s47) else lf_lt (lf_w s45 389 16 ((s45.1 389 16) + (0 : Int32))) (fun s46 => some s46)))))) else some p43.2)))) else some p41.2))))) else lf_lt (-1 : Int32) (fun y4 => (if y4 = (-1 : Int32) then (f_Mod_wrong (p3.2.1 389 11) p3.2).bind (fun p39 => some p39) else (f_Mod_figures (0 : Int32) (99 : Int32) p3.2).bind (fun p5 => lf_lt p5.1 (fun y6 => (if (p5.2.1 389 12) = (-1 : Int32) then (f_Mod_has 31 p5.2).bind (fun p7 => (if p7.1 = true then (f_Mod_some p7.2).bind (fun p18 => (if p18.1 = true then lf_lt (1 : Int32) (fun y29 => (if (p18.2.1 389 12) = (-1 : Int32) then (if y29 = 0 then some p18.2 else (if y4 = 0 then lf_lt (lf_w p18.2 389 15 ((p18.2.1 389 15) + y6)) (fun s36 => (if y4 = (2 : Int32) then lf_lt (lf_w s36 389 16 ((s36.1 389 16) + y6)) (fun s38 => some s38) else lf_lt (lf_w s36 389 16 ((s36.1 389 16) + (0 : Int32))) (fun s37 => some s37))) else (if y4 = (1 : Int32) then lf_lt (lf_w p18.2 389 15 ((p18.2.1 389 15) + (-y6))) (fun s33 => (if y4 = (2 : Int32) then lf_lt (lf_w s33 389 16 ((s33.1 389 16) + y6)) (fun s35 => some s35) else lf_lt (lf_w s33 389 16 ((s33.1 389 16) + (0 : Int32))) (fun s34 => some s34))) else lf_lt (lf_w p18.2 389 15 ((p18.2.1 389 15) + (0 : Int32))) (fun s30 => (if y4 = (2 : Int32) then lf_lt (lf_w s30 389 16 ((s30.1 389 16) + y6)) (fun s32 => some s32) else lf_lt (lf_w s30 389 16 ((s30.1 389 16) + (0 : Int32))) (fun s31 => some s31)))))) else some p18.2)) else lf_lt (0 : Int32) (fun y19 => (if (p18.2.1 389 12) = (-1 : Int32) then (if y19 = 0 then some p18.2 else (if y4 = 0 then lf_lt (lf_w p18.2 389 15 ((p18.2.1 389 15) + y6)) (fun s26 => (if y4 = (2 : Int32) then lf_lt (lf_w s26 389 16 ((s26.1 389 16) + y6)) (fun s28 => some s28) else lf_lt (lf_w s26 389 16 ((s26.1 389 16) + (0 : Int32))) (fun s27 => some s27))) else (if y4 = (1 : Int32) then lf_lt (lf_w p18.2 389 15 ((p18.2.1 389 15) + (-y6))) (fun s23 => (if y4 = (2 : Int32) then lf_lt (lf_w s23 389 16 ((s23.1 389 16) + y6)) (fun s25 => some s25) else lf_lt (lf_w s23 389 16 ((s23.1 389 16) + (0 : Int32))) (fun s24 => some s24))) else lf_lt (lf_w p18.2 389 15 ((p18.2.1 389 15) + (0 : Int32))) (fun s20 => (if y4 = (2 : Int32) then lf_lt (lf_w s20 389 16 ((s20.1 389 16) + y6)) (fun s22 => some s22) else lf_lt (lf_w s20 389 16 ((s20.1 389 16) + (0 : Int32))) (fun s21 => some s21)))))) else some p18.2)))) else lf_lt (1 : Int32) (fun y8 => (if (p7.2.1 389 12) = (-1 : Int32) then (if y8 = 0 then some p7.2 else (if y4 = 0 then lf_lt (lf_w p7.2 389 15 ((p7.2.1 389 15) + y6)) (fun s15 => (if y4 = (2 : Int32) then lf_lt (lf_w s15 389 16 ((s15.1 389 16) + y6)) (fun s17 => some s17) else lf_lt (lf_w s15 389 16 ((s15.1 389 16) + (0 : Int32))) (fun s16 => some s16))) else (if y4 = (1 : Int32) then lf_lt (lf_w p7.2 389 15 ((p7.2.1 389 15) + (-y6))) (fun s12 => (if y4 = (2 : Int32) then lf_lt (lf_w s12 389 16 ((s12.1 389 16) + y6)) (fun s14 => some s14) else lf_lt (lf_w s12 389 16 ((s12.1 389 16) + (0 : Int32))) (fun s13 => some s13))) else lf_lt (lf_w p7.2 389 15 ((p7.2.1 389 15) + (0 : Int32))) (fun s9 => (if y4 = (2 : Int32) then lf_lt (lf_w s9 389 16 ((s9.1 389 16) + y6)) (fun s11 => some s11) else lf_lt (lf_w s9 389 16 ((s9.1 389 16) + (0 : Int32))) (fun s10 => some s10)))))) else some p7.2)))) else some p5.2)))))))))))
def f_Mod_read_23 (c1 : Int32) : Nat → Int32 → Int32 → lf_S → Option (Int32 × lf_S)
  | 0, _, _, _ => none
  | n + 1, v2, v3, s => (if v2 = 0 then some (v3, s) else (if (s.1 389 12) = (-1 : Int32) then (f_Mod_skip s).bind (fun p4 => (if c1 = 0 then (if v3 = (14 : Int32) then (f_Mod_wrong (p4.1 389 11) p4).bind (fun p21 => lf_lt (v3 + (1 : Int32)) (fun y22 => (f_Mod_skip p21).bind (fun p23 => (if (p23.1 389 12) = (-1 : Int32) then (if (p23.1 389 11) = (p23.1 389 10) then lf_lt (0 : Int32) (fun y28 => f_Mod_read_23 c1 n y28 y22 p23) else (f_Mod_isSign (59 : Int32) p23).bind (fun p25 => (if p25.1 = true then lf_lt (lf_w p25.2 389 11 ((p25.2.1 389 11) + (1 : Int32))) (fun s27 => f_Mod_read_23 c1 n v2 y22 s27) else (f_Mod_wrong (p25.2.1 389 11) p25.2).bind (fun p26 => f_Mod_read_23 c1 n v2 y22 p26)))) else lf_lt (0 : Int32) (fun y24 => f_Mod_read_23 c1 n y24 y22 p23))))) else (if c1 = 0 then (f_Mod_holtLine p4).bind (fun p5 => lf_lt (v3 + (1 : Int32)) (fun y6 => (f_Mod_skip p5).bind (fun p7 => (if (p7.1 389 12) = (-1 : Int32) then (if (p7.1 389 11) = (p7.1 389 10) then lf_lt (0 : Int32) (fun y12 => f_Mod_read_23 c1 n y12 y6 p7) else (f_Mod_isSign (59 : Int32) p7).bind (fun p9 => (if p9.1 = true then lf_lt (lf_w p9.2 389 11 ((p9.2.1 389 11) + (1 : Int32))) (fun s11 => f_Mod_read_23 c1 n v2 y6 s11) else (f_Mod_wrong (p9.2.1 389 11) p9.2).bind (fun p10 => f_Mod_read_23 c1 n v2 y6 p10)))) else lf_lt (0 : Int32) (fun y8 => f_Mod_read_23 c1 n y8 y6 p7))))) else (f_Mod_lawLine p4).bind (fun p13 => lf_lt (v3 + (1 : Int32)) (fun y14 => (f_Mod_skip p13).bind (fun p15 => (if (p15.1 389 12) = (-1 : Int32) then (if (p15.1 389 11) = (p15.1 389 10) then lf_lt (0 : Int32) (fun y20 => f_Mod_read_23 c1 n y20 y14 p15) else (f_Mod_isSign (59 : Int32) p15).bind (fun p17 => (if p17.1 = true then lf_lt (lf_w p17.2 389 11 ((p17.2.1 389 11) + (1 : Int32))) (fun s19 => f_Mod_read_23 c1 n v2 y14 s19) else (f_Mod_wrong (p17.2.1 389 11) p17.2).bind (fun p18 => f_Mod_read_23 c1 n v2 y14 p18)))) else lf_lt (0 : Int32) (fun y16 => f_Mod_read_23 c1 n y16 y14 p15))))))) else (if v3 = (12 : Int32) then (f_Mod_wrong (p4.1 389 11) p4).bind (fun p45 => lf_lt (v3 + (1 : Int32)) (fun y46 => (f_Mod_skip p45).bind (fun p47 => (if (p47.1 389 12) = (-1 : Int32) then (if (p47.1 389 11) = (p47.1 389 10) then lf_lt (0 : Int32) (fun y52 => f_Mod_read_23 c1 n y52 y46 p47) else (f_Mod_isSign (59 : Int32) p47).bind (fun p49 => (if p49.1 = true then lf_lt (lf_w p49.2 389 11 ((p49.2.1 389 11) + (1 : Int32))) (fun s51 => f_Mod_read_23 c1 n v2 y46 s51) else (f_Mod_wrong (p49.2.1 389 11) p49.2).bind (fun p50 => f_Mod_read_23 c1 n v2 y46 p50)))) else lf_lt (0 : Int32) (fun y48 => f_Mod_read_23 c1 n y48 y46 p47))))) else (if c1 = 0 then (f_Mod_holtLine p4).bind (fun p29 => lf_lt (v3 + (1 : Int32)) (fun y30 => (f_Mod_skip p29).bind (fun p31 => (if (p31.1 389 12) = (-1 : Int32) then (if (p31.1 389 11) = (p31.1 389 10) then lf_lt (0 : Int32) (fun y36 => f_Mod_read_23 c1 n y36 y30 p31) else (f_Mod_isSign (59 : Int32) p31).bind (fun p33 => (if p33.1 = true then lf_lt (lf_w p33.2 389 11 ((p33.2.1 389 11) + (1 : Int32))) (fun s35 => f_Mod_read_23 c1 n v2 y30 s35) else (f_Mod_wrong (p33.2.1 389 11) p33.2).bind (fun p34 => f_Mod_read_23 c1 n v2 y30 p34)))) else lf_lt (0 : Int32) (fun y32 => f_Mod_read_23 c1 n y32 y30 p31))))) else (f_Mod_lawLine p4).bind (fun p37 => lf_lt (v3 + (1 : Int32)) (fun y38 => (f_Mod_skip p37).bind (fun p39 => (if (p39.1 389 12) = (-1 : Int32) then (if (p39.1 389 11) = (p39.1 389 10) then lf_lt (0 : Int32) (fun y44 => f_Mod_read_23 c1 n y44 y38 p39) else (f_Mod_isSign (59 : Int32) p39).bind (fun p41 => (if p41.1 = true then lf_lt (lf_w p41.2 389 11 ((p41.2.1 389 11) + (1 : Int32))) (fun s43 => f_Mod_read_23 c1 n v2 y38 s43) else (f_Mod_wrong (p41.2.1 389 11) p41.2).bind (fun p42 => f_Mod_read_23 c1 n v2 y38 p42)))) else lf_lt (0 : Int32) (fun y40 => f_Mod_read_23 c1 n y40 y38 p39))))))))) else some (v3, s)))
def f_Mod_read (x1 : Int32) (s : lf_S) : Option (Int32 × lf_S) := (f_Mod_skip s).bind (fun p1 => (if (p1.1 389 10) ≤ (p1.1 389 11) then lf_lt (0 : Int32) (fun y2 => lf_lt (0 : Int32) (fun y3 => (f_Mod_read_23 x1 5000 y2 y3 p1).bind (fun p53 => some (p53.1, p53.2)))) else lf_lt (1 : Int32) (fun y54 => lf_lt (0 : Int32) (fun y55 => (f_Mod_read_23 x1 5000 y54 y55 p1).bind (fun p56 => some (p56.1, p56.2))))))
def f_Mod_holt (s : lf_S) : Option (Int32 × lf_S) := (f_Mod_putsAside s).bind (fun p1 => (f_Mod_begins p1).bind (fun p2 => (f_Mod_read (0 : Int32) p2).bind (fun p3 => lf_lt p3.1 (fun y4 => (if (p3.2.1 389 12) = (-1 : Int32) then lf_ck (0 : Int32) 766 (fun k5 => (if (p3.2.1 390 k5) = (12 : Int32) then lf_lt (lf_w p3.2 389 0 (2 : Int32)) (fun s13 => (if (s13.1 389 0) ≤ 0 then lf_ck (0 : Int32) 766 (fun k14 => lf_ck (0 : Int32) 766 (fun k15 => lf_lt (lf_w s13 390 k15 ((s13.1 390 k14) + (1 : Int32))) (fun s16 => lf_lt (lf_w s16 389 6 (0 : Int32)) (fun s17 => lf_ck (0 : Int32) 766 (fun k18 => some ((s17.1 390 k18), s17)))))) else (f_Mod_comesBack s13).bind (fun p19 => some ((0 : Int32), p19)))) else lf_lt (lf_w p3.2 389 0 (0 : Int32)) (fun s6 => (if (s6.1 389 0) ≤ 0 then lf_ck (0 : Int32) 766 (fun k7 => lf_ck (0 : Int32) 766 (fun k8 => lf_lt (lf_w s6 390 k8 ((s6.1 390 k7) + (1 : Int32))) (fun s9 => lf_lt (lf_w s9 389 6 (0 : Int32)) (fun s10 => lf_ck (0 : Int32) 766 (fun k11 => some ((s10.1 390 k11), s10)))))) else (f_Mod_comesBack s6).bind (fun p12 => some ((0 : Int32), p12)))))) else lf_lt (lf_w p3.2 389 0 (1 : Int32)) (fun s20 => (if (s20.1 389 0) ≤ 0 then lf_ck (0 : Int32) 766 (fun k21 => lf_ck (0 : Int32) 766 (fun k22 => lf_lt (lf_w s20 390 k22 ((s20.1 390 k21) + (1 : Int32))) (fun s23 => lf_lt (lf_w s23 389 6 (0 : Int32)) (fun s24 => lf_ck (0 : Int32) 766 (fun k25 => some ((s24.1 390 k25), s24)))))) else (f_Mod_comesBack s20).bind (fun p26 => some ((0 : Int32), p26)))))))))
def f_Mod_law_55 (c1 : Int32) : Nat → Int32 → lf_S → Option (lf_S)
  | 0, _, _ => none
  | n + 1, v2, s => (if (s.1 389 10) ≤ v2 then some s else lf_ck v2 400 (fun k10 => lf_ck ((366 : Int32) + v2) 766 (fun k11 => lf_lt (lf_w s 390 k11 (s.1 394 k10)) (fun s12 => lf_lt (v2 + (1 : Int32)) (fun y13 => f_Mod_law_55 c1 n y13 s12)))))
def f_Mod_law (s : lf_S) : Option (Int32 × lf_S) := (f_Mod_begins s).bind (fun p1 => (f_Mod_read (1 : Int32) p1).bind (fun p2 => lf_lt p2.1 (fun y3 => (if (p2.2.1 389 12) = (-1 : Int32) then lf_lt (lf_w p2.2 389 0 (0 : Int32)) (fun s4 => (if (s4.1 389 0) ≤ 0 then lf_ck (1 : Int32) 766 (fun k5 => lf_lt (lf_w s4 390 k5 y3) (fun s6 => lf_ck (2 : Int32) 766 (fun k7 => lf_lt (lf_w s6 390 k7 (s6.1 389 10)) (fun s8 => lf_lt (0 : Int32) (fun y9 => (f_Mod_law_55 y3 5000 y9 s8).bind (fun p14 => lf_lt (lf_w p14 389 6 (0 : Int32)) (fun s15 => some (y3, s15)))))))) else some ((0 : Int32), s4))) else lf_lt (lf_w p2.2 389 0 (1 : Int32)) (fun s16 => (if (s16.1 389 0) ≤ 0 then lf_ck (1 : Int32) 766 (fun k17 => lf_lt (lf_w s16 390 k17 y3) (fun s18 => lf_ck (2 : Int32) 766 (fun k19 => lf_lt (lf_w s18 390 k19 (s18.1 389 10)) (fun s20 => lf_lt (0 : Int32) (fun y21 => (f_Mod_law_55 y3 5000 y21 s20).bind (fun p22 => lf_lt (lf_w p22 389 6 (0 : Int32)) (fun s23 => some (y3, s23)))))))) else some ((0 : Int32), s16)))))))
def f_Mod_asks_24 (c1 : Int32) : Nat → Int32 → lf_S → Option (lf_S)
  | 0, _, _ => none
  | n + 1, v2, s => (if (4 : Int32) ≤ v2 then some s else (f_Mod_ofBed c1 v2 s).bind (fun p7 => lf_ck (v2 + (1 : Int32)) 7 (fun k8 => lf_lt (lf_w s 395 k8 p7) (fun s9 => lf_lt (v2 + (1 : Int32)) (fun y10 => f_Mod_asks_24 c1 n y10 s9)))))
def f_Mod_asks (x1 : Int32) (s : lf_S) : Option (lf_S) := (f_Mod_ofBed x1 (1 : Int32) s).bind (fun p1 => lf_lt (lf_w s 389 15 p1) (fun s2 => lf_lt (lf_w s2 389 16 (5 : Int32)) (fun s3 => lf_ck (0 : Int32) 7 (fun k4 => lf_lt (lf_w s3 395 k4 x1) (fun s5 => lf_lt (0 : Int32) (fun y6 => (f_Mod_asks_24 x1 5000 y6 s5).bind (fun p11 => lf_ck (8 : Int32) 766 (fun k12 => lf_ck (5 : Int32) 7 (fun k13 => lf_lt (lf_w p11 395 k13 (p11.1 390 k12)) (fun s14 => lf_ck (9 : Int32) 766 (fun k15 => lf_ck (6 : Int32) 7 (fun k16 => lf_lt (lf_w s14 395 k16 ((s14.1 390 k15) % (100 : Int32))) (fun s17 => lf_lt (s17.1 389 12) (fun y18 => lf_lt (lf_w s17 389 12 (-1 : Int32)) (fun s19 => lf_lt (lf_w s19 389 9 (366 : Int32)) (fun s20 => lf_ck (1 : Int32) 766 (fun k21 => (if (1 : Int32) ≤ (s20.1 390 k21) then lf_ck (2 : Int32) 766 (fun k22 => lf_lt (lf_w s20 389 10 (s20.1 390 k22)) (fun s23 => lf_lt (lf_w s23 389 11 (0 : Int32)) (fun s24 => lf_lt (lf_w s24 389 13 (0 : Int32)) (fun s25 => (f_Mod_read (1 : Int32) s25).bind (fun p26 => lf_lt p26.1 (fun y27 => lf_lt (lf_w p26.2 389 12 y18) (fun s28 => (f_Mod_lesser (6 : Int32) (s28.1 389 15)).bind (fun p29 => (f_Mod_greater (0 : Int32) p29).bind (fun p30 => lf_lt (lf_w s28 389 15 p30) (fun s31 => some s31)))))))))) else lf_lt (lf_w s20 389 10 (0 : Int32)) (fun s32 => lf_lt (lf_w s32 389 11 (0 : Int32)) (fun s33 => lf_lt (lf_w s33 389 13 (0 : Int32)) (fun s34 => (f_Mod_read (1 : Int32) s34).bind (fun p35 => lf_lt p35.1 (fun y36 => lf_lt (lf_w p35.2 389 12 y18) (fun s37 => (f_Mod_lesser (6 : Int32) (s37.1 389 15)).bind (fun p38 => (f_Mod_greater (0 : Int32) p38).bind (fun p39 => lf_lt (lf_w s37 389 15 p39) (fun s40 => some s40)))))))))))))))))))))))))))
def f_Mod_reachOf (x1 : Int32) (s : lf_S) : Option (Int32 × lf_S) := (f_Mod_asks x1 s).bind (fun p1 => some ((p1.1 389 15), p1))
def f_Mod_yieldOf (x1 : Int32) (s : lf_S) : Option (Int32 × lf_S) := (f_Mod_reachOf x1 s).bind (fun p1 => (if p1.1 = 0 then some ((0 : Int32), p1.2) else (f_Mod_ofBed x1 (2 : Int32) p1.2).bind (fun p2 => some (((2 : Int32) * p2), p1.2))))
def f_Mod_bed (x1 : Int32) (x2 : Int32) (s : lf_S) : Option (Int32 × lf_S) := (f_Mod_isBed x1 s).bind (fun p1 => (if p1 = true then (f_Mod_isIn x2 (0 : Int32) (7 : Int32)).bind (fun p2 => (if p2 = true then lf_lt (lf_w s 389 0 (0 : Int32)) (fun s3 => (if (s3.1 389 0) ≤ 0 then (if (4 : Int32) ≤ x2 then (if x2 = (4 : Int32) then (f_Mod_reachOf x1 s3).bind (fun p8 => some (p8.1, p8.2)) else (if x2 = (5 : Int32) then (f_Mod_yieldOf x1 s3).bind (fun p7 => some (p7.1, p7.2)) else (if x2 = (7 : Int32) then (f_Mod_ofBed x1 (2 : Int32) s3).bind (fun p5 => (f_Mod_stoolsOfAll s3).bind (fun p6 => lf_nz p6 (some ((((100 : Int32) * p5) / p6), s3)))) else (f_Mod_asks x1 s3).bind (fun p4 => some ((p4.1 389 16), p4))))) else (f_Mod_ofBed x1 x2 s3).bind (fun p9 => some (p9, s3))) else some ((0 : Int32), s3))) else lf_lt (lf_w s 389 0 (2 : Int32)) (fun s10 => (if (s10.1 389 0) ≤ 0 then (if (4 : Int32) ≤ x2 then (if x2 = (4 : Int32) then (f_Mod_reachOf x1 s10).bind (fun p15 => some (p15.1, p15.2)) else (if x2 = (5 : Int32) then (f_Mod_yieldOf x1 s10).bind (fun p14 => some (p14.1, p14.2)) else (if x2 = (7 : Int32) then (f_Mod_ofBed x1 (2 : Int32) s10).bind (fun p12 => (f_Mod_stoolsOfAll s10).bind (fun p13 => lf_nz p13 (some ((((100 : Int32) * p12) / p13), s10)))) else (f_Mod_asks x1 s10).bind (fun p11 => some ((p11.1 389 16), p11))))) else (f_Mod_ofBed x1 x2 s10).bind (fun p16 => some (p16, s10))) else some ((0 : Int32), s10))))) else lf_lt (lf_w s 389 0 (1 : Int32)) (fun s17 => (if (s17.1 389 0) ≤ 0 then (if (4 : Int32) ≤ x2 then (if x2 = (4 : Int32) then (f_Mod_reachOf x1 s17).bind (fun p22 => some (p22.1, p22.2)) else (if x2 = (5 : Int32) then (f_Mod_yieldOf x1 s17).bind (fun p21 => some (p21.1, p21.2)) else (if x2 = (7 : Int32) then (f_Mod_ofBed x1 (2 : Int32) s17).bind (fun p19 => (f_Mod_stoolsOfAll s17).bind (fun p20 => lf_nz p20 (some ((((100 : Int32) * p19) / p20), s17)))) else (f_Mod_asks x1 s17).bind (fun p18 => some ((p18.1 389 16), p18))))) else (f_Mod_ofBed x1 x2 s17).bind (fun p23 => some (p23, s17))) else some ((0 : Int32), s17)))))
def f_Mod_cut (x1 : Int32) (s : lf_S) : Option (Int32 × lf_S) := (f_Mod_isBed x1 s).bind (fun p1 => (if p1 = true then lf_lt (lf_w s 389 0 (0 : Int32)) (fun s2 => (if (s2.1 389 0) ≤ 0 then (f_Mod_reachOf x1 s2).bind (fun p3 => lf_lt p3.1 (fun y4 => (if y4 = 0 then lf_lt (lf_w p3.2 389 0 (2 : Int32)) (fun s5 => (if (s5.1 389 0) ≤ 0 then (f_Mod_ofBed x1 (2 : Int32) s5).bind (fun p6 => lf_lt ((2 : Int32) * p6) (fun y7 => lf_ck (8 : Int32) 766 (fun k8 => (f_Mod_sets (8 : Int32) ((s5.1 390 k8) - (s5.1 389 16)) s5).bind (fun p9 => lf_lt p9.1 (fun y10 => (f_Mod_stored y4 p9.2).bind (fun p11 => (f_Mod_lesser (9999 : Int32) (p11 + y7)).bind (fun p12 => lf_ck (((37 : Int32) + y4) - (1 : Int32)) 766 (fun k13 => lf_lt (lf_w p9.2 390 k13 p12) (fun s14 => lf_ck (((13 : Int32) + ((4 : Int32) * x1)) + (1 : Int32)) 766 (fun k15 => lf_lt (lf_w s14 390 k15 (0 : Int32)) (fun s16 => (f_Mod_logs x1 (0 : Int32) y7 s16).bind (fun p17 => some (y7, p17))))))))))))) else some ((0 : Int32), s5))) else lf_ck (8 : Int32) 766 (fun k18 => (if (p3.2.1 389 16) ≤ (p3.2.1 390 k18) then lf_lt (lf_w p3.2 389 0 (0 : Int32)) (fun s19 => (if (s19.1 389 0) ≤ 0 then (f_Mod_ofBed x1 (2 : Int32) s19).bind (fun p20 => lf_lt ((2 : Int32) * p20) (fun y21 => lf_ck (8 : Int32) 766 (fun k22 => (f_Mod_sets (8 : Int32) ((s19.1 390 k22) - (s19.1 389 16)) s19).bind (fun p23 => lf_lt p23.1 (fun y24 => (f_Mod_stored y4 p23.2).bind (fun p25 => (f_Mod_lesser (9999 : Int32) (p25 + y21)).bind (fun p26 => lf_ck (((37 : Int32) + y4) - (1 : Int32)) 766 (fun k27 => lf_lt (lf_w p23.2 390 k27 p26) (fun s28 => lf_ck (((13 : Int32) + ((4 : Int32) * x1)) + (1 : Int32)) 766 (fun k29 => lf_lt (lf_w s28 390 k29 (0 : Int32)) (fun s30 => (f_Mod_logs x1 (0 : Int32) y21 s30).bind (fun p31 => some (y21, p31))))))))))))) else some ((0 : Int32), s19))) else lf_lt (lf_w p3.2 389 0 (2 : Int32)) (fun s32 => (if (s32.1 389 0) ≤ 0 then (f_Mod_ofBed x1 (2 : Int32) s32).bind (fun p33 => lf_lt ((2 : Int32) * p33) (fun y34 => lf_ck (8 : Int32) 766 (fun k35 => (f_Mod_sets (8 : Int32) ((s32.1 390 k35) - (s32.1 389 16)) s32).bind (fun p36 => lf_lt p36.1 (fun y37 => (f_Mod_stored y4 p36.2).bind (fun p38 => (f_Mod_lesser (9999 : Int32) (p38 + y34)).bind (fun p39 => lf_ck (((37 : Int32) + y4) - (1 : Int32)) 766 (fun k40 => lf_lt (lf_w p36.2 390 k40 p39) (fun s41 => lf_ck (((13 : Int32) + ((4 : Int32) * x1)) + (1 : Int32)) 766 (fun k42 => lf_lt (lf_w s41 390 k42 (0 : Int32)) (fun s43 => (f_Mod_logs x1 (0 : Int32) y34 s43).bind (fun p44 => some (y34, p44))))))))))))) else some ((0 : Int32), s32)))))))) else some ((0 : Int32), s2))) else lf_lt (lf_w s 389 0 (1 : Int32)) (fun s45 => (if (s45.1 389 0) ≤ 0 then (f_Mod_reachOf x1 s45).bind (fun p46 => lf_lt p46.1 (fun y47 => (if y47 = 0 then lf_lt (lf_w p46.2 389 0 (2 : Int32)) (fun s48 => (if (s48.1 389 0) ≤ 0 then (f_Mod_ofBed x1 (2 : Int32) s48).bind (fun p49 => lf_lt ((2 : Int32) * p49) (fun y50 => lf_ck (8 : Int32) 766 (fun k51 => (f_Mod_sets (8 : Int32) ((s48.1 390 k51) - (s48.1 389 16)) s48).bind (fun p52 => lf_lt p52.1 (fun y53 => (f_Mod_stored y47 p52.2).bind (fun p54 => (f_Mod_lesser (9999 : Int32) (p54 + y50)).bind (fun p55 => lf_ck (((37 : Int32) + y47) - (1 : Int32)) 766 (fun k56 => lf_lt (lf_w p52.2 390 k56 p55) (fun s57 => lf_ck (((13 : Int32) + ((4 : Int32) * x1)) + (1 : Int32)) 766 (fun k58 => lf_lt (lf_w s57 390 k58 (0 : Int32)) (fun s59 => (f_Mod_logs x1 (0 : Int32) y50 s59).bind (fun p60 => some (y50, p60))))))))))))) else some ((0 : Int32), s48))) else lf_ck (8 : Int32) 766 (fun k61 => (if (p46.2.1 389 16) ≤ (p46.2.1 390 k61) then lf_lt (lf_w p46.2 389 0 (0 : Int32)) (fun s62 => (if (s62.1 389 0) ≤ 0 then (f_Mod_ofBed x1 (2 : Int32) s62).bind (fun p63 => lf_lt ((2 : Int32) * p63) (fun y64 => lf_ck (8 : Int32) 766 (fun k65 => (f_Mod_sets (8 : Int32) ((s62.1 390 k65) - (s62.1 389 16)) s62).bind (fun p66 => lf_lt p66.1 (fun y67 => (f_Mod_stored y47 p66.2).bind (fun p68 => (f_Mod_lesser (9999 : Int32) (p68 + y64)).bind (fun p69 => lf_ck (((37 : Int32) + y47) - (1 : Int32)) 766 (fun k70 => lf_lt (lf_w p66.2 390 k70 p69) (fun s71 => lf_ck (((13 : Int32) + ((4 : Int32) * x1)) + (1 : Int32)) 766 (fun k72 => lf_lt (lf_w s71 390 k72 (0 : Int32)) (fun s73 => (f_Mod_logs x1 (0 : Int32) y64 s73).bind (fun p74 => some (y64, p74))))))))))))) else some ((0 : Int32), s62))) else lf_lt (lf_w p46.2 389 0 (2 : Int32)) (fun s75 => (if (s75.1 389 0) ≤ 0 then (f_Mod_ofBed x1 (2 : Int32) s75).bind (fun p76 => lf_lt ((2 : Int32) * p76) (fun y77 => lf_ck (8 : Int32) 766 (fun k78 => (f_Mod_sets (8 : Int32) ((s75.1 390 k78) - (s75.1 389 16)) s75).bind (fun p79 => lf_lt p79.1 (fun y80 => (f_Mod_stored y47 p79.2).bind (fun p81 => (f_Mod_lesser (9999 : Int32) (p81 + y77)).bind (fun p82 => lf_ck (((37 : Int32) + y47) - (1 : Int32)) 766 (fun k83 => lf_lt (lf_w p79.2 390 k83 p82) (fun s84 => lf_ck (((13 : Int32) + ((4 : Int32) * x1)) + (1 : Int32)) 766 (fun k85 => lf_lt (lf_w s84 390 k85 (0 : Int32)) (fun s86 => (f_Mod_logs x1 (0 : Int32) y77 s86).bind (fun p87 => some (y77, p87))))))))))))) else some ((0 : Int32), s75)))))))) else some ((0 : Int32), s45)))))
def f_Mod_packs_10 (q_Mod_packs : Int32 → Int32 → Int32 → Int32 → Int32 → lf_S → Option (Bool × lf_S)) (c1 : Int32) (c2 : Int32) (c3 : Int32) (c4 : Int32) (c5 : Int32) : Nat → Int32 → lf_S → Option ((lf_S) ⊕ (Bool × lf_S))
  | 0, _, _ => none
  | n + 1, v6, s => (if c3 < v6 then some (Sum.inl s) else (if c4 ≤ v6 then some (Sum.inl s) else (if v6 = c3 then lf_lt c5 (fun y19 => lf_ck c1 400 (fun k20 => (if (s.1 394 k20) ≤ y19 then lf_ck c1 400 (fun k21 => lf_ck v6 8 (fun k22 => lf_lt (lf_w s 401 k22 (y19 - (s.1 394 k21))) (fun s23 => lf_ck c1 8 (fun k24 => lf_lt (lf_w s23 402 k24 v6) (fun s25 => (if v6 = c3 then (q_Mod_packs (c1 + (1 : Int32)) c2 (c3 + (1 : Int32)) c4 c5 s25).bind (fun p30 => (if p30.1 = true then some (Sum.inr (true, p30.2)) else lf_ck v6 8 (fun k31 => lf_lt (lf_w p30.2 401 k31 y19) (fun s32 => lf_lt (v6 + (1 : Int32)) (fun y33 => f_Mod_packs_10 q_Mod_packs c1 c2 c3 c4 c5 n y33 s32))))) else (q_Mod_packs (c1 + (1 : Int32)) c2 c3 c4 c5 s25).bind (fun p26 => (if p26.1 = true then some (Sum.inr (true, p26.2)) else lf_ck v6 8 (fun k27 => lf_lt (lf_w p26.2 401 k27 y19) (fun s28 => lf_lt (v6 + (1 : Int32)) (fun y29 => f_Mod_packs_10 q_Mod_packs c1 c2 c3 c4 c5 n y29 s28))))))))))) else lf_lt (v6 + (1 : Int32)) (fun y34 => f_Mod_packs_10 q_Mod_packs c1 c2 c3 c4 c5 n y34 s)))) else lf_ck v6 8 (fun k2 => lf_lt (s.1 401 k2) (fun y3 => lf_ck c1 400 (fun k4 => (if (s.1 394 k4) ≤ y3 then lf_ck c1 400 (fun k5 => lf_ck v6 8 (fun k6 => lf_lt (lf_w s 401 k6 (y3 - (s.1 394 k5))) (fun s7 => lf_ck c1 8 (fun k8 => lf_lt (lf_w s7 402 k8 v6) (fun s9 => (if v6 = c3 then (q_Mod_packs (c1 + (1 : Int32)) c2 (c3 + (1 : Int32)) c4 c5 s9).bind (fun p14 => (if p14.1 = true then some (Sum.inr (true, p14.2)) else lf_ck v6 8 (fun k15 => lf_lt (lf_w p14.2 401 k15 y3) (fun s16 => lf_lt (v6 + (1 : Int32)) (fun y17 => f_Mod_packs_10 q_Mod_packs c1 c2 c3 c4 c5 n y17 s16))))) else (q_Mod_packs (c1 + (1 : Int32)) c2 c3 c4 c5 s9).bind (fun p10 => (if p10.1 = true then some (Sum.inr (true, p10.2)) else lf_ck v6 8 (fun k11 => lf_lt (lf_w p10.2 401 k11 y3) (fun s12 => lf_lt (v6 + (1 : Int32)) (fun y13 => f_Mod_packs_10 q_Mod_packs c1 c2 c3 c4 c5 n y13 s12))))))))))) else lf_lt (v6 + (1 : Int32)) (fun y18 => f_Mod_packs_10 q_Mod_packs c1 c2 c3 c4 c5 n y18 s))))))))
def fb_Mod_packs (q_Mod_packs : Int32 → Int32 → Int32 → Int32 → Int32 → lf_S → Option (Bool × lf_S)) (x1 : Int32) (x2 : Int32) (x3 : Int32) (x4 : Int32) (x5 : Int32) (s : lf_S) : Option (Bool × lf_S) := (if x1 = x2 then some (true, s) else lf_lt (0 : Int32) (fun y1 => (f_Mod_packs_10 q_Mod_packs x1 x2 x3 x4 x5 5000 y1 s).bind (fun p35 => Sum.elim (fun q36 => some (false, q36)) (fun q37 => some (q37.1, q37.2)) p35)))
def F_Mod_packs : Nat → (Int32 → Int32 → Int32 → Int32 → Int32 → lf_S → Option (Bool × lf_S))
  | 0 => (fun _ _ _ _ _ _ => none)
  | n + 1 => (fb_Mod_packs (F_Mod_packs n))
def f_Mod_packs (x1 : Int32) (x2 : Int32) (x3 : Int32) (x4 : Int32) (x5 : Int32) (s : lf_S) : Option (Bool × lf_S) := (F_Mod_packs 64) x1 x2 x3 x4 x5 s
def f_Mod_rodsFor_2 (c1 : Int32) (c2 : Int32) : Nat → Int32 → lf_S → Option ((lf_S) ⊕ (Int32 × lf_S))
  | 0, _, _ => none
  | n + 1, v3, s => (if c1 ≤ v3 then some (Sum.inl s) else lf_ck v3 400 (fun k2 => (if (s.1 394 k2) ≤ ((12 : Int32) * c2) then lf_lt (v3 + (1 : Int32)) (fun y3 => f_Mod_rodsFor_2 c1 c2 n y3 s) else some (Sum.inr ((-1 : Int32), s)))))
def f_Mod_rodsFor_30 (c1 : Int32) (c2 : Int32) : Nat → Int32 → lf_S → Option (Int32 × lf_S)
  | 0, _, _ => none
  | n + 1, v3, s => (f_Mod_packs (0 : Int32) c1 (0 : Int32) v3 ((12 : Int32) * c2) s).bind (fun p8 => (if p8.1 = true then some (v3, p8.2) else lf_lt (v3 + (1 : Int32)) (fun y9 => f_Mod_rodsFor_30 c1 c2 n y9 p8.2)))
def f_Mod_rodsFor (x1 : Int32) (x2 : Int32) (s : lf_S) : Option (Int32 × lf_S) := lf_lt (0 : Int32) (fun y1 => (f_Mod_rodsFor_2 x1 x2 5000 y1 s).bind (fun p4 => Sum.elim (fun q5 => lf_lt (0 : Int32) (fun y7 => (f_Mod_rodsFor_30 x1 x2 5000 y7 q5).bind (fun p10 => some (p10.1, p10.2)))) (fun q6 => some (q6.1, q6.2)) p4))
def f_Mod_pieces (x1 : Int32) (s : lf_S) : Option (Int32 × lf_S) := (f_Mod_pieceMany x1 s).bind (fun p1 => lf_lt p1.1 (fun y2 => (if (p1.2.1 389 0) ≤ 0 then (f_Mod_rodsFor y2 x1 p1.2).bind (fun p3 => some (p3.1, p3.2)) else some ((0 : Int32), p1.2))))
def f_Mod_rod (x1 : Int32) (x2 : Int32) (s : lf_S) : Option (Int32 × lf_S) := (f_Mod_pieceMany x1 s).bind (fun p1 => lf_lt p1.1 (fun y2 => (if (p1.2.1 389 0) ≤ 0 then (f_Mod_rodsFor y2 x1 p1.2).bind (fun p3 => (if p3.1 = (-1 : Int32) then some ((-1 : Int32), p3.2) else (f_Mod_isIn x2 (0 : Int32) (y2 - (1 : Int32))).bind (fun p4 => (if p4 = true then lf_ck x2 8 (fun k5 => some ((p3.2.1 402 k5), p3.2)) else some ((-1 : Int32), p3.2))))) else some ((0 : Int32), p1.2))))
def f_Mod_heHas (x1 : Int32) (x2 : Int32) (x3 : Int32) (s : lf_S) : Option (Int32 × lf_S) := (if x2 = 0 then (if x3 = 0 then (f_Mod_reachOf x1 s).bind (fun p4 => some (p4.1, p4.2)) else (f_Mod_reachOf x1 s).bind (fun p3 => some ((p3.1 + (2 : Int32)), p3.2))) else (if x3 = 0 then (f_Mod_ofBed x1 (3 : Int32) s).bind (fun p2 => some ((-p2), s)) else (f_Mod_ofBed x1 (1 : Int32) s).bind (fun p1 => some (p1, s))))
def f_Mod_rests_30 (c1 : Int32) : Nat → Int32 → Int32 → lf_S → Option (Int32 × lf_S)
  | 0, _, _, _ => none
  | n + 1, v2, v3, s => (if (4 : Int32) ≤ v3 then some (v2, s) else lf_lt (v3 / (2 : Int32)) (fun y5 => lf_lt (v3 % (2 : Int32)) (fun y6 => (f_Mod_heHas c1 ((1 : Int32) - y5) y6 s).bind (fun p7 => (f_Mod_heHas c1 y5 y6 p7.2).bind (fun p8 => (if p8.1 < p7.1 then lf_lt (v3 + (1 : Int32)) (fun y9 => f_Mod_rests_30 c1 n v2 y9 p8.2) else (f_Mod_riverHas y5 ((1 : Int32) - y6)).bind (fun p10 => (f_Mod_riverHas y5 y6).bind (fun p11 => (if p11 < p10 then lf_lt (v3 + (1 : Int32)) (fun y12 => f_Mod_rests_30 c1 n v2 y12 p8.2) else lf_lt (v2 ||| ((1 : Int32) <<< (v3 &&& 31))) (fun y13 => lf_lt (v3 + (1 : Int32)) (fun y14 => f_Mod_rests_30 c1 n y13 y14 p8.2)))))))))))
def f_Mod_rests (x1 : Int32) (s : lf_S) : Option (Int32 × lf_S) := (f_Mod_isBed x1 s).bind (fun p1 => (if p1 = true then lf_lt (lf_w s 389 0 (0 : Int32)) (fun s2 => (if (s2.1 389 0) ≤ 0 then lf_lt (0 : Int32) (fun y3 => lf_lt (0 : Int32) (fun y4 => (f_Mod_rests_30 x1 5000 y3 y4 s2).bind (fun p15 => some (p15.1, p15.2)))) else some ((0 : Int32), s2))) else lf_lt (lf_w s 389 0 (1 : Int32)) (fun s16 => (if (s16.1 389 0) ≤ 0 then lf_lt (0 : Int32) (fun y17 => lf_lt (0 : Int32) (fun y18 => (f_Mod_rests_30 x1 5000 y17 y18 s16).bind (fun p19 => some (p19.1, p19.2)))) else some ((0 : Int32), s16)))))
theorem s_Main_holt {sc : Nat × (Nat → Int32)} {s : lf_S} {p : (Nat ⊕ Int32) × lf_S} (h : f_Main_holt s = some p) : lf_th sc 8 j_Main_holt [.ref 0] s lf_vi p := by
  refine lf_inT (D := 7) (ls := [.ref 0, mj_U]) rfl (lf_zti (by decide +kernel)) rfl ?_
  intro d hd cl
  unfold f_Main_holt at h
  refine lf_blk B_Main_holt_0 ?_
  refine lf_aload rfl ?_
  refine lf_getr (ci := 9) (k := 4) lf_a0 rfl (by decide) rfl ?_
  refine lf_aload rfl ?_
  refine lf_getr (ci := 9) (k := 2) lf_a0 rfl (by decide) rfl ?_
  refine lf_callVWu (as := [.ref 10]) (rest := []) h rfl rfl (lf_Holt_0 lf_Holt_at40) rfl (Nat.le_trans (by decide) hd) rfl rfl (fun p1 h9 => s_Holt_copy lf_Holt_at40 lf_Holt_at10 h9) ?_
  intro p1 h
  refine lf_aload rfl ?_
  refine lf_getr (ci := 9) (k := 0) lf_a0 rfl (by decide) rfl ?_
  refine lf_aload rfl ?_
  refine lf_getr (ci := 9) (k := 4) lf_a0 rfl (by decide) rfl ?_
  refine lf_callSWb (as := [.ref 1, .ref 40]) (rest := []) h rfl rfl (Nat.le_trans (by decide) hd) rfl rfl (fun p2 h9 => s_HoltText_read lf_Holt_at40 h9) ?_
  intro p2 h
  refine lf_istoreb (L := fun e3 => [.ref 0, .int (lf_i e3)]) h rfl rfl (fun _ => rfl) ?_
  intro e3 h
  refine lf_aload rfl ?_
  refine lf_getr (ci := 9) (k := 0) lf_a0 rfl (by decide) rfl ?_
  refine lf_iconst lf_c0 ?_
  refine lf_putf (ci := 7) (k := 1) h lf_a1 rfl (by decide) rfl rfl rfl ?_
  intro s4 h
  refine lf_iload rfl ?_
  refine lf_ifb_ne h (fun h => ?_) (fun h => ?_)
  · refine lf_blk B_Main_holt_45 ?_
    refine lf_aload rfl ?_
    refine lf_getr (ci := 9) (k := 2) lf_a0 rfl (by decide) rfl ?_
    refine lf_getf (ci := 3) (k := 6) (lf_Holt_0 lf_Holt_at10) rfl (by decide) rfl ?_
    refine lf_iconst lf_c12 ?_
    refine lf_icmp_lt h (fun h => ?_) (fun h => ?_)
    · refine lf_blk B_Main_holt_67 ?_
      refine lf_aload rfl ?_
      refine lf_getr (ci := 9) (k := 2) lf_a0 rfl (by decide) rfl ?_
      refine lf_aload rfl ?_
      refine lf_getr (ci := 9) (k := 4) lf_a0 rfl (by decide) rfl ?_
      refine lf_callVWu (as := [.ref 40]) (rest := []) h rfl rfl (lf_Holt_0 lf_Holt_at10) rfl (Nat.le_trans (by decide) hd) rfl rfl (fun p5 h9 => s_Holt_copy lf_Holt_at10 lf_Holt_at40 h9) ?_
      intro p5 h
      refine lf_aload rfl ?_
      refine lf_getr (ci := 9) (k := 2) lf_a0 rfl (by decide) rfl ?_
      refine lf_dupr ?_
      refine lf_getf (ci := 3) (k := 6) (lf_Holt_0 lf_Holt_at10) rfl (by decide) rfl ?_
      refine lf_iconst lf_c1 ?_
      refine lf_iadd ?_
      refine lf_putf (ci := 3) (k := 6) h (lf_Holt_0 lf_Holt_at10) rfl (by decide) rfl rfl rfl ?_
      intro s6 h
      refine lf_aload rfl ?_
      refine lf_iconst lf_c0 ?_
      refine lf_putf (ci := 9) (k := 10) h lf_a0 rfl (by decide) rfl rfl rfl ?_
      intro s7 h
      refine lf_aload rfl ?_
      refine lf_getr (ci := 9) (k := 2) lf_a0 rfl (by decide) rfl ?_
      refine lf_getf (ci := 3) (k := 6) (lf_Holt_0 lf_Holt_at10) rfl (by decide) rfl ?_
      cases h
      exact lf_iret ⟨rfl, rfl, rfl⟩
    · cases h
      exact lf_throw rfl
  · cases h
    exact lf_throw rfl
theorem s_LawText_readAny_8 {sc : Nat × (Nat → Int32)} {d : Nat} {Q : mj_Q} {cl : Bool} {rc rs : Nat} {E : Nat} {q_LawText_readAny : Nat → Int32 → lf_S → Option (lf_S)} {q_LawText_readAll : Nat → Int32 → lf_S → Option (lf_S)} {q_LawText_readAtom : Nat → Int32 → lf_S → Option (lf_S)} {a1 : Nat} {c2 : Int32} {p : lf_S} (hE : 5 ≤ E) (hq_LawText_readAny : ∀ (a1 : Nat) (x2 : Int32) (ha1 : lf_Law a1) (s : lf_S) (p : lf_S), q_LawText_readAny a1 x2 s = some p → lf_ok sc E j_LawText_readAny [.ref 1, .ref a1, .int x2] s (none) p) (hq_LawText_readAll : ∀ (a1 : Nat) (x2 : Int32) (ha1 : lf_Law a1) (s : lf_S) (p : lf_S), q_LawText_readAll a1 x2 s = some p → lf_ok sc E j_LawText_readAll [.ref 1, .ref a1, .int x2] s (none) p) (hq_LawText_readAtom : ∀ (a1 : Nat) (x2 : Int32) (ha1 : lf_Law a1) (s : lf_S) (p : lf_S), q_LawText_readAtom a1 x2 s = some p → lf_ok sc E j_LawText_readAtom [.ref 1, .ref a1, .int x2] s (none) p) (ha1 : lf_Law a1) (hd : E ≤ d) (hk : lf_wp sc d j_LawText_readAny Q 43 [mj_U, mj_U, mj_U, mj_U] [] (lf_hp p) cl rc rs) : ∀ (n : Nat) (v3 : Int32) (s : lf_S), f_LawText_readAny_8 q_LawText_readAny q_LawText_readAll q_LawText_readAtom a1 c2 n v3 s = some p → lf_wp sc d j_LawText_readAny Q 8 [.ref 1, .ref a1, .int c2, .int v3] [] (lf_hp s) cl rc rs := by
  intro n
  induction n with
  | zero =>
    intro v3 s h
    exact absurd h (fun z => by cases z)
  | succ n ih =>
    intro v3 s h
    unfold f_LawText_readAny_8 at h
    refine lf_blk B_LawText_readAny_8 ?_
    refine lf_iload rfl ?_
    refine lf_iconst lf_c400 ?_
    refine lf_icmp_ge h (fun h => ?_) (fun h => ?_)
    · rw [← Option.some.inj h] at hk
      exact mj_w_weak (ls := [mj_U, mj_U, mj_U, mj_U]) (lf_rr (lf_rr (lf_ri (lf_ri (lf_r0))))) hk
    · refine lf_aload rfl ?_
      refine lf_ldc ?_
      refine lf_callVWb (as := [.ref (mj_SC + 1 + 58)]) (rest := []) h rfl rfl lf_a1 rfl (Nat.le_trans (Nat.le_trans (by decide) hE) hd) rfl rfl (fun p3 h9 => s_Tape_takeWord (by decide : 58 < 71) h9) ?_
      intro p3 h
      refine lf_ifb_eq h (fun h => ?_) (fun h => ?_)
      · rw [← Option.some.inj h] at hk
        exact mj_w_weak (ls := [mj_U, mj_U, mj_U, mj_U]) (lf_rr (lf_rr (lf_ri (lf_ri (lf_r0))))) hk
      · refine lf_aload rfl ?_
        refine lf_aload rfl ?_
        refine lf_iload rfl ?_
        refine lf_callSWu (as := [.ref 1, .ref a1, .int c2]) (rest := []) h rfl rfl hd rfl rfl (fun p4 h9 => hq_LawText_readAll _ _ ha1 _ _ h9) ?_
        intro p4 h
        refine lf_aload rfl ?_
        refine lf_iconst lf_c1015 ?_
        refine lf_callVWu (as := [.int (1015 : Int32)]) (rest := []) h rfl rfl (lf_Law_0 ha1) rfl (Nat.le_trans (Nat.le_trans (by decide) hE) hd) rfl rfl (fun p5 h9 => s_Law_emit ha1 h9) ?_
        intro p5 h
        refine lf_iinc (L := fun y6 => [.ref 1, .ref a1, .int c2, .int y6]) h lf_c1 rfl rfl (fun _ => rfl) ?_
        intro y6 h
        refine lf_goto ?_
        exact mj_w_weak (ls := [.ref 1, .ref a1, .int c2, .int y6]) (lf_rl (lf_rl (lf_rl (lf_rl (lf_r0))))) (ih y6 p5 h)
theorem sb_LawText_readAny {sc : Nat × (Nat → Int32)} {E : Nat} {q_LawText_readAny : Nat → Int32 → lf_S → Option (lf_S)} {q_LawText_readAll : Nat → Int32 → lf_S → Option (lf_S)} {q_LawText_readAtom : Nat → Int32 → lf_S → Option (lf_S)} (hE : 5 ≤ E) (hq_LawText_readAny : ∀ (a1 : Nat) (x2 : Int32) (ha1 : lf_Law a1) (s : lf_S) (p : lf_S), q_LawText_readAny a1 x2 s = some p → lf_ok sc E j_LawText_readAny [.ref 1, .ref a1, .int x2] s (none) p) (hq_LawText_readAll : ∀ (a1 : Nat) (x2 : Int32) (ha1 : lf_Law a1) (s : lf_S) (p : lf_S), q_LawText_readAll a1 x2 s = some p → lf_ok sc E j_LawText_readAll [.ref 1, .ref a1, .int x2] s (none) p) (hq_LawText_readAtom : ∀ (a1 : Nat) (x2 : Int32) (ha1 : lf_Law a1) (s : lf_S) (p : lf_S), q_LawText_readAtom a1 x2 s = some p → lf_ok sc E j_LawText_readAtom [.ref 1, .ref a1, .int x2] s (none) p) {a1 : Nat} {x2 : Int32} (ha1 : lf_Law a1) {s : lf_S} {p : lf_S} (h : fb_LawText_readAny q_LawText_readAny q_LawText_readAll q_LawText_readAtom a1 x2 s = some p) : lf_ok sc (E + 1) j_LawText_readAny [.ref 1, .ref a1, .int x2] s (none) p := by
  refine lf_in (D := E) (ls := [.ref 1, .ref a1, .int x2, mj_U]) rfl (lf_zi (by decide +kernel)) rfl ?_
  intro d hd cl rc rs
  unfold fb_LawText_readAny at h
  refine lf_blk B_LawText_readAny_0 ?_
  refine lf_aload rfl ?_
  refine lf_aload rfl ?_
  refine lf_iload rfl ?_
  refine lf_callSWu (as := [.ref 1, .ref a1, .int x2]) (rest := []) h rfl rfl hd rfl rfl (fun p1 h9 => hq_LawText_readAll _ _ ha1 _ _ h9) ?_
  intro p1 h
  refine lf_iconst lf_c0 ?_
  refine lf_istore (L := fun y2 => [.ref 1, .ref a1, .int x2, .int y2]) h rfl rfl (fun _ => rfl) ?_
  intro y2 h
  refine lf_end ?_
  refine lf_loop h (fun p7 hp7 h => ?_)
  refine mj_w_weak (ls := [.ref 1, .ref a1, .int x2, .int y2]) (lf_rl (lf_rl (lf_rl (lf_rl (lf_r0))))) ?_
  refine s_LawText_readAny_8 hE hq_LawText_readAny hq_LawText_readAll hq_LawText_readAtom ha1 hd ?_ 5000 y2 p1 hp7
  refine lf_blk B_LawText_readAny_43 ?_
  cases h
  exact lf_ret ⟨rfl, rfl, rfl⟩
theorem s_LawText_readAll_8 {sc : Nat × (Nat → Int32)} {d : Nat} {Q : mj_Q} {cl : Bool} {rc rs : Nat} {E : Nat} {q_LawText_readAny : Nat → Int32 → lf_S → Option (lf_S)} {q_LawText_readAll : Nat → Int32 → lf_S → Option (lf_S)} {q_LawText_readAtom : Nat → Int32 → lf_S → Option (lf_S)} {a1 : Nat} {c2 : Int32} {p : lf_S} (hE : 5 ≤ E) (hq_LawText_readAny : ∀ (a1 : Nat) (x2 : Int32) (ha1 : lf_Law a1) (s : lf_S) (p : lf_S), q_LawText_readAny a1 x2 s = some p → lf_ok sc E j_LawText_readAny [.ref 1, .ref a1, .int x2] s (none) p) (hq_LawText_readAll : ∀ (a1 : Nat) (x2 : Int32) (ha1 : lf_Law a1) (s : lf_S) (p : lf_S), q_LawText_readAll a1 x2 s = some p → lf_ok sc E j_LawText_readAll [.ref 1, .ref a1, .int x2] s (none) p) (hq_LawText_readAtom : ∀ (a1 : Nat) (x2 : Int32) (ha1 : lf_Law a1) (s : lf_S) (p : lf_S), q_LawText_readAtom a1 x2 s = some p → lf_ok sc E j_LawText_readAtom [.ref 1, .ref a1, .int x2] s (none) p) (ha1 : lf_Law a1) (hd : E ≤ d) (hk : lf_wp sc d j_LawText_readAll Q 43 [mj_U, mj_U, mj_U, mj_U] [] (lf_hp p) cl rc rs) : ∀ (n : Nat) (v3 : Int32) (s : lf_S), f_LawText_readAll_8 q_LawText_readAny q_LawText_readAll q_LawText_readAtom a1 c2 n v3 s = some p → lf_wp sc d j_LawText_readAll Q 8 [.ref 1, .ref a1, .int c2, .int v3] [] (lf_hp s) cl rc rs := by
  intro n
  induction n with
  | zero =>
    intro v3 s h
    exact absurd h (fun z => by cases z)
  | succ n ih =>
    intro v3 s h
    unfold f_LawText_readAll_8 at h
    refine lf_blk B_LawText_readAll_8 ?_
    refine lf_iload rfl ?_
    refine lf_iconst lf_c400 ?_
    refine lf_icmp_ge h (fun h => ?_) (fun h => ?_)
    · rw [← Option.some.inj h] at hk
      exact mj_w_weak (ls := [mj_U, mj_U, mj_U, mj_U]) (lf_rr (lf_rr (lf_ri (lf_ri (lf_r0))))) hk
    · refine lf_aload rfl ?_
      refine lf_ldc ?_
      refine lf_callVWb (as := [.ref (mj_SC + 1 + 59)]) (rest := []) h rfl rfl lf_a1 rfl (Nat.le_trans (Nat.le_trans (by decide) hE) hd) rfl rfl (fun p3 h9 => s_Tape_takeWord (by decide : 59 < 71) h9) ?_
      intro p3 h
      refine lf_ifb_eq h (fun h => ?_) (fun h => ?_)
      · rw [← Option.some.inj h] at hk
        exact mj_w_weak (ls := [mj_U, mj_U, mj_U, mj_U]) (lf_rr (lf_rr (lf_ri (lf_ri (lf_r0))))) hk
      · refine lf_aload rfl ?_
        refine lf_aload rfl ?_
        refine lf_iload rfl ?_
        refine lf_callSWu (as := [.ref 1, .ref a1, .int c2]) (rest := []) h rfl rfl hd rfl rfl (fun p4 h9 => hq_LawText_readAtom _ _ ha1 _ _ h9) ?_
        intro p4 h
        refine lf_aload rfl ?_
        refine lf_iconst lf_c1014 ?_
        refine lf_callVWu (as := [.int (1014 : Int32)]) (rest := []) h rfl rfl (lf_Law_0 ha1) rfl (Nat.le_trans (Nat.le_trans (by decide) hE) hd) rfl rfl (fun p5 h9 => s_Law_emit ha1 h9) ?_
        intro p5 h
        refine lf_iinc (L := fun y6 => [.ref 1, .ref a1, .int c2, .int y6]) h lf_c1 rfl rfl (fun _ => rfl) ?_
        intro y6 h
        refine lf_goto ?_
        exact mj_w_weak (ls := [.ref 1, .ref a1, .int c2, .int y6]) (lf_rl (lf_rl (lf_rl (lf_rl (lf_r0))))) (ih y6 p5 h)
theorem sb_LawText_readAll {sc : Nat × (Nat → Int32)} {E : Nat} {q_LawText_readAny : Nat → Int32 → lf_S → Option (lf_S)} {q_LawText_readAll : Nat → Int32 → lf_S → Option (lf_S)} {q_LawText_readAtom : Nat → Int32 → lf_S → Option (lf_S)} (hE : 5 ≤ E) (hq_LawText_readAny : ∀ (a1 : Nat) (x2 : Int32) (ha1 : lf_Law a1) (s : lf_S) (p : lf_S), q_LawText_readAny a1 x2 s = some p → lf_ok sc E j_LawText_readAny [.ref 1, .ref a1, .int x2] s (none) p) (hq_LawText_readAll : ∀ (a1 : Nat) (x2 : Int32) (ha1 : lf_Law a1) (s : lf_S) (p : lf_S), q_LawText_readAll a1 x2 s = some p → lf_ok sc E j_LawText_readAll [.ref 1, .ref a1, .int x2] s (none) p) (hq_LawText_readAtom : ∀ (a1 : Nat) (x2 : Int32) (ha1 : lf_Law a1) (s : lf_S) (p : lf_S), q_LawText_readAtom a1 x2 s = some p → lf_ok sc E j_LawText_readAtom [.ref 1, .ref a1, .int x2] s (none) p) {a1 : Nat} {x2 : Int32} (ha1 : lf_Law a1) {s : lf_S} {p : lf_S} (h : fb_LawText_readAll q_LawText_readAny q_LawText_readAll q_LawText_readAtom a1 x2 s = some p) : lf_ok sc (E + 1) j_LawText_readAll [.ref 1, .ref a1, .int x2] s (none) p := by
  refine lf_in (D := E) (ls := [.ref 1, .ref a1, .int x2, mj_U]) rfl (lf_zi (by decide +kernel)) rfl ?_
  intro d hd cl rc rs
  unfold fb_LawText_readAll at h
  refine lf_blk B_LawText_readAll_0 ?_
  refine lf_aload rfl ?_
  refine lf_aload rfl ?_
  refine lf_iload rfl ?_
  refine lf_callSWu (as := [.ref 1, .ref a1, .int x2]) (rest := []) h rfl rfl hd rfl rfl (fun p1 h9 => hq_LawText_readAtom _ _ ha1 _ _ h9) ?_
  intro p1 h
  refine lf_iconst lf_c0 ?_
  refine lf_istore (L := fun y2 => [.ref 1, .ref a1, .int x2, .int y2]) h rfl rfl (fun _ => rfl) ?_
  intro y2 h
  refine lf_end ?_
  refine lf_loop h (fun p7 hp7 h => ?_)
  refine mj_w_weak (ls := [.ref 1, .ref a1, .int x2, .int y2]) (lf_rl (lf_rl (lf_rl (lf_rl (lf_r0))))) ?_
  refine s_LawText_readAll_8 hE hq_LawText_readAny hq_LawText_readAll hq_LawText_readAtom ha1 hd ?_ 5000 y2 p1 hp7
  refine lf_blk B_LawText_readAll_43 ?_
  cases h
  exact lf_ret ⟨rfl, rfl, rfl⟩
theorem sb_LawText_readAtom {sc : Nat × (Nat → Int32)} {E : Nat} {q_LawText_readAny : Nat → Int32 → lf_S → Option (lf_S)} {q_LawText_readAll : Nat → Int32 → lf_S → Option (lf_S)} {q_LawText_readAtom : Nat → Int32 → lf_S → Option (lf_S)} (hE : 5 ≤ E) (hq_LawText_readAny : ∀ (a1 : Nat) (x2 : Int32) (ha1 : lf_Law a1) (s : lf_S) (p : lf_S), q_LawText_readAny a1 x2 s = some p → lf_ok sc E j_LawText_readAny [.ref 1, .ref a1, .int x2] s (none) p) (hq_LawText_readAll : ∀ (a1 : Nat) (x2 : Int32) (ha1 : lf_Law a1) (s : lf_S) (p : lf_S), q_LawText_readAll a1 x2 s = some p → lf_ok sc E j_LawText_readAll [.ref 1, .ref a1, .int x2] s (none) p) (hq_LawText_readAtom : ∀ (a1 : Nat) (x2 : Int32) (ha1 : lf_Law a1) (s : lf_S) (p : lf_S), q_LawText_readAtom a1 x2 s = some p → lf_ok sc E j_LawText_readAtom [.ref 1, .ref a1, .int x2] s (none) p) {a1 : Nat} {x2 : Int32} (ha1 : lf_Law a1) {s : lf_S} {p : lf_S} (h : fb_LawText_readAtom q_LawText_readAny q_LawText_readAll q_LawText_readAtom a1 x2 s = some p) : lf_ok sc (E + 1) j_LawText_readAtom [.ref 1, .ref a1, .int x2] s (none) p := by
  refine lf_in (D := E) (ls := [.ref 1, .ref a1, .int x2]) rfl (lf_zi (by decide +kernel)) rfl ?_
  intro d hd cl rc rs
  unfold fb_LawText_readAtom at h
  refine lf_blk B_LawText_readAtom_0 ?_
  refine lf_iload rfl ?_
  refine lf_iconst lf_c6 ?_
  refine lf_icmp_ge h (fun h => ?_) (fun h => ?_)
  · refine lf_blk B_LawText_readAtom_33 ?_
    refine lf_iload rfl ?_
    refine lf_iconst lf_c6 ?_
    refine lf_icmp_ge h (fun h => ?_) (fun h => ?_)
    · refine lf_blk B_LawText_readAtom_72 ?_
      refine lf_aload rfl ?_
      refine lf_ldc ?_
      refine lf_callVWb (as := [.ref (mj_SC + 1 + 61)]) (rest := []) h rfl rfl lf_a1 rfl (Nat.le_trans (Nat.le_trans (by decide) hE) hd) rfl rfl (fun p1 h9 => s_Tape_takeWord (by decide : 61 < 71) h9) ?_
      intro p1 h
      refine lf_ifb_eq h (fun h => ?_) (fun h => ?_)
      · refine lf_blk B_LawText_readAtom_91 ?_
        refine lf_aload rfl ?_
        refine lf_ldc ?_
        refine lf_callVWb (as := [.ref (mj_SC + 1 + 62)]) (rest := []) h rfl rfl lf_a1 rfl (Nat.le_trans (Nat.le_trans (by decide) hE) hd) rfl rfl (fun p2 h9 => s_Tape_takeWord (by decide : 62 < 71) h9) ?_
        intro p2 h
        refine lf_ifb_eq h (fun h => ?_) (fun h => ?_)
        · refine lf_blk B_LawText_readAtom_110 ?_
          refine lf_aload rfl ?_
          refine lf_ldc ?_
          refine lf_callVWb (as := [.ref (mj_SC + 1 + 63)]) (rest := []) h rfl rfl lf_a1 rfl (Nat.le_trans (Nat.le_trans (by decide) hE) hd) rfl rfl (fun p3 h9 => s_Tape_takeWord (by decide : 63 < 71) h9) ?_
          intro p3 h
          refine lf_ifb_eq h (fun h => ?_) (fun h => ?_)
          · refine lf_blk B_LawText_readAtom_129 ?_
            refine lf_aload rfl ?_
            refine lf_aload rfl ?_
            refine lf_callSWu (as := [.ref 1, .ref a1]) (rest := []) h rfl rfl (Nat.le_trans (Nat.le_trans (by decide) hE) hd) rfl rfl (fun p4 h9 => s_LawText_readComparison ha1 h9) ?_
            intro p4 h
            refine lf_end ?_
            refine lf_blk B_LawText_readAtom_134 ?_
            cases h
            exact lf_ret ⟨rfl, rfl, rfl⟩
          · refine lf_aload rfl ?_
            refine lf_iconst lf_c1009 ?_
            refine lf_callVWu (as := [.int (1009 : Int32)]) (rest := []) h rfl rfl (lf_Law_0 ha1) rfl (Nat.le_trans (Nat.le_trans (by decide) hE) hd) rfl rfl (fun p5 h9 => s_Law_emit ha1 h9) ?_
            intro p5 h
            refine lf_goto ?_
            refine lf_blk B_LawText_readAtom_134 ?_
            cases h
            exact lf_ret ⟨rfl, rfl, rfl⟩
        · refine lf_aload rfl ?_
          refine lf_iconst lf_c1008 ?_
          refine lf_callVWu (as := [.int (1008 : Int32)]) (rest := []) h rfl rfl (lf_Law_0 ha1) rfl (Nat.le_trans (Nat.le_trans (by decide) hE) hd) rfl rfl (fun p6 h9 => s_Law_emit ha1 h9) ?_
          intro p6 h
          refine lf_goto ?_
          refine lf_blk B_LawText_readAtom_134 ?_
          cases h
          exact lf_ret ⟨rfl, rfl, rfl⟩
      · refine lf_aload rfl ?_
        refine lf_iconst lf_c1007 ?_
        refine lf_callVWu (as := [.int (1007 : Int32)]) (rest := []) h rfl rfl (lf_Law_0 ha1) rfl (Nat.le_trans (Nat.le_trans (by decide) hE) hd) rfl rfl (fun p7 h9 => s_Law_emit ha1 h9) ?_
        intro p7 h
        refine lf_goto ?_
        refine lf_blk B_LawText_readAtom_134 ?_
        cases h
        exact lf_ret ⟨rfl, rfl, rfl⟩
    · refine lf_aload rfl ?_
      refine lf_iconst lf_c40 ?_
      refine lf_callVWb (as := [.int (40 : Int32)]) (rest := []) h rfl rfl lf_a1 rfl (Nat.le_trans (Nat.le_trans (by decide) hE) hd) rfl rfl (fun p8 h9 => s_Tape_takeSign h9) ?_
      intro p8 h
      refine lf_ifb_eq h (fun h => ?_) (fun h => ?_)
      · refine lf_blk B_LawText_readAtom_72 ?_
        refine lf_aload rfl ?_
        refine lf_ldc ?_
        refine lf_callVWb (as := [.ref (mj_SC + 1 + 61)]) (rest := []) h rfl rfl lf_a1 rfl (Nat.le_trans (Nat.le_trans (by decide) hE) hd) rfl rfl (fun p9 h9 => s_Tape_takeWord (by decide : 61 < 71) h9) ?_
        intro p9 h
        refine lf_ifb_eq h (fun h => ?_) (fun h => ?_)
        · refine lf_blk B_LawText_readAtom_91 ?_
          refine lf_aload rfl ?_
          refine lf_ldc ?_
          refine lf_callVWb (as := [.ref (mj_SC + 1 + 62)]) (rest := []) h rfl rfl lf_a1 rfl (Nat.le_trans (Nat.le_trans (by decide) hE) hd) rfl rfl (fun p10 h9 => s_Tape_takeWord (by decide : 62 < 71) h9) ?_
          intro p10 h
          refine lf_ifb_eq h (fun h => ?_) (fun h => ?_)
          · refine lf_blk B_LawText_readAtom_110 ?_
            refine lf_aload rfl ?_
            refine lf_ldc ?_
            refine lf_callVWb (as := [.ref (mj_SC + 1 + 63)]) (rest := []) h rfl rfl lf_a1 rfl (Nat.le_trans (Nat.le_trans (by decide) hE) hd) rfl rfl (fun p11 h9 => s_Tape_takeWord (by decide : 63 < 71) h9) ?_
            intro p11 h
            refine lf_ifb_eq h (fun h => ?_) (fun h => ?_)
            · refine lf_blk B_LawText_readAtom_129 ?_
              refine lf_aload rfl ?_
              refine lf_aload rfl ?_
              refine lf_callSWu (as := [.ref 1, .ref a1]) (rest := []) h rfl rfl (Nat.le_trans (Nat.le_trans (by decide) hE) hd) rfl rfl (fun p12 h9 => s_LawText_readComparison ha1 h9) ?_
              intro p12 h
              refine lf_end ?_
              refine lf_blk B_LawText_readAtom_134 ?_
              cases h
              exact lf_ret ⟨rfl, rfl, rfl⟩
            · refine lf_aload rfl ?_
              refine lf_iconst lf_c1009 ?_
              refine lf_callVWu (as := [.int (1009 : Int32)]) (rest := []) h rfl rfl (lf_Law_0 ha1) rfl (Nat.le_trans (Nat.le_trans (by decide) hE) hd) rfl rfl (fun p13 h9 => s_Law_emit ha1 h9) ?_
              intro p13 h
              refine lf_goto ?_
              refine lf_blk B_LawText_readAtom_134 ?_
              cases h
              exact lf_ret ⟨rfl, rfl, rfl⟩
          · refine lf_aload rfl ?_
            refine lf_iconst lf_c1008 ?_
            refine lf_callVWu (as := [.int (1008 : Int32)]) (rest := []) h rfl rfl (lf_Law_0 ha1) rfl (Nat.le_trans (Nat.le_trans (by decide) hE) hd) rfl rfl (fun p14 h9 => s_Law_emit ha1 h9) ?_
            intro p14 h
            refine lf_goto ?_
            refine lf_blk B_LawText_readAtom_134 ?_
            cases h
            exact lf_ret ⟨rfl, rfl, rfl⟩
        · refine lf_aload rfl ?_
          refine lf_iconst lf_c1007 ?_
          refine lf_callVWu (as := [.int (1007 : Int32)]) (rest := []) h rfl rfl (lf_Law_0 ha1) rfl (Nat.le_trans (Nat.le_trans (by decide) hE) hd) rfl rfl (fun p15 h9 => s_Law_emit ha1 h9) ?_
          intro p15 h
          refine lf_goto ?_
          refine lf_blk B_LawText_readAtom_134 ?_
          cases h
          exact lf_ret ⟨rfl, rfl, rfl⟩
      · refine lf_aload rfl ?_
        refine lf_aload rfl ?_
        refine lf_iload rfl ?_
        refine lf_iconst lf_c1 ?_
        refine lf_iadd ?_
        refine lf_callSWu (as := [.ref 1, .ref a1, .int (x2 + (1 : Int32))]) (rest := []) h rfl rfl hd rfl rfl (fun p16 h9 => hq_LawText_readAny _ _ ha1 _ _ h9) ?_
        intro p16 h
        refine lf_aload rfl ?_
        refine lf_iconst lf_c41 ?_
        refine lf_callVWb (as := [.int (41 : Int32)]) (rest := []) h rfl rfl lf_a1 rfl (Nat.le_trans (Nat.le_trans (by decide) hE) hd) rfl rfl (fun p17 h9 => s_Tape_takeSign h9) ?_
        intro p17 h
        refine lf_ifb_ne h (fun h => ?_) (fun h => ?_)
        · refine lf_blk B_LawText_readAtom_134 ?_
          cases h
          exact lf_ret ⟨rfl, rfl, rfl⟩
        · refine lf_aload rfl ?_
          refine lf_callVWu (as := []) (rest := []) h rfl rfl lf_a1 rfl (Nat.le_trans (Nat.le_trans (by decide) hE) hd) rfl rfl (fun p18 h9 => s_Tape_fail h9) ?_
          intro p18 h
          refine lf_goto ?_
          refine lf_blk B_LawText_readAtom_134 ?_
          cases h
          exact lf_ret ⟨rfl, rfl, rfl⟩
  · refine lf_aload rfl ?_
    refine lf_ldc ?_
    refine lf_callVWb (as := [.ref (mj_SC + 1 + 60)]) (rest := []) h rfl rfl lf_a1 rfl (Nat.le_trans (Nat.le_trans (by decide) hE) hd) rfl rfl (fun p19 h9 => s_Tape_takeWord (by decide : 60 < 71) h9) ?_
    intro p19 h
    refine lf_ifb_eq h (fun h => ?_) (fun h => ?_)
    · refine lf_blk B_LawText_readAtom_33 ?_
      refine lf_iload rfl ?_
      refine lf_iconst lf_c6 ?_
      refine lf_icmp_ge h (fun h => ?_) (fun h => ?_)
      · refine lf_blk B_LawText_readAtom_72 ?_
        refine lf_aload rfl ?_
        refine lf_ldc ?_
        refine lf_callVWb (as := [.ref (mj_SC + 1 + 61)]) (rest := []) h rfl rfl lf_a1 rfl (Nat.le_trans (Nat.le_trans (by decide) hE) hd) rfl rfl (fun p20 h9 => s_Tape_takeWord (by decide : 61 < 71) h9) ?_
        intro p20 h
        refine lf_ifb_eq h (fun h => ?_) (fun h => ?_)
        · refine lf_blk B_LawText_readAtom_91 ?_
          refine lf_aload rfl ?_
          refine lf_ldc ?_
          refine lf_callVWb (as := [.ref (mj_SC + 1 + 62)]) (rest := []) h rfl rfl lf_a1 rfl (Nat.le_trans (Nat.le_trans (by decide) hE) hd) rfl rfl (fun p21 h9 => s_Tape_takeWord (by decide : 62 < 71) h9) ?_
          intro p21 h
          refine lf_ifb_eq h (fun h => ?_) (fun h => ?_)
          · refine lf_blk B_LawText_readAtom_110 ?_
            refine lf_aload rfl ?_
            refine lf_ldc ?_
            refine lf_callVWb (as := [.ref (mj_SC + 1 + 63)]) (rest := []) h rfl rfl lf_a1 rfl (Nat.le_trans (Nat.le_trans (by decide) hE) hd) rfl rfl (fun p22 h9 => s_Tape_takeWord (by decide : 63 < 71) h9) ?_
            intro p22 h
            refine lf_ifb_eq h (fun h => ?_) (fun h => ?_)
            · refine lf_blk B_LawText_readAtom_129 ?_
              refine lf_aload rfl ?_
              refine lf_aload rfl ?_
              refine lf_callSWu (as := [.ref 1, .ref a1]) (rest := []) h rfl rfl (Nat.le_trans (Nat.le_trans (by decide) hE) hd) rfl rfl (fun p23 h9 => s_LawText_readComparison ha1 h9) ?_
              intro p23 h
              refine lf_end ?_
              refine lf_blk B_LawText_readAtom_134 ?_
              cases h
              exact lf_ret ⟨rfl, rfl, rfl⟩
            · refine lf_aload rfl ?_
              refine lf_iconst lf_c1009 ?_
              refine lf_callVWu (as := [.int (1009 : Int32)]) (rest := []) h rfl rfl (lf_Law_0 ha1) rfl (Nat.le_trans (Nat.le_trans (by decide) hE) hd) rfl rfl (fun p24 h9 => s_Law_emit ha1 h9) ?_
              intro p24 h
              refine lf_goto ?_
              refine lf_blk B_LawText_readAtom_134 ?_
              cases h
              exact lf_ret ⟨rfl, rfl, rfl⟩
          · refine lf_aload rfl ?_
            refine lf_iconst lf_c1008 ?_
            refine lf_callVWu (as := [.int (1008 : Int32)]) (rest := []) h rfl rfl (lf_Law_0 ha1) rfl (Nat.le_trans (Nat.le_trans (by decide) hE) hd) rfl rfl (fun p25 h9 => s_Law_emit ha1 h9) ?_
            intro p25 h
            refine lf_goto ?_
            refine lf_blk B_LawText_readAtom_134 ?_
            cases h
            exact lf_ret ⟨rfl, rfl, rfl⟩
        · refine lf_aload rfl ?_
          refine lf_iconst lf_c1007 ?_
          refine lf_callVWu (as := [.int (1007 : Int32)]) (rest := []) h rfl rfl (lf_Law_0 ha1) rfl (Nat.le_trans (Nat.le_trans (by decide) hE) hd) rfl rfl (fun p26 h9 => s_Law_emit ha1 h9) ?_
          intro p26 h
          refine lf_goto ?_
          refine lf_blk B_LawText_readAtom_134 ?_
          cases h
          exact lf_ret ⟨rfl, rfl, rfl⟩
      · refine lf_aload rfl ?_
        refine lf_iconst lf_c40 ?_
        refine lf_callVWb (as := [.int (40 : Int32)]) (rest := []) h rfl rfl lf_a1 rfl (Nat.le_trans (Nat.le_trans (by decide) hE) hd) rfl rfl (fun p27 h9 => s_Tape_takeSign h9) ?_
        intro p27 h
        refine lf_ifb_eq h (fun h => ?_) (fun h => ?_)
        · refine lf_blk B_LawText_readAtom_72 ?_
          refine lf_aload rfl ?_
          refine lf_ldc ?_
          refine lf_callVWb (as := [.ref (mj_SC + 1 + 61)]) (rest := []) h rfl rfl lf_a1 rfl (Nat.le_trans (Nat.le_trans (by decide) hE) hd) rfl rfl (fun p28 h9 => s_Tape_takeWord (by decide : 61 < 71) h9) ?_
          intro p28 h
          refine lf_ifb_eq h (fun h => ?_) (fun h => ?_)
          · refine lf_blk B_LawText_readAtom_91 ?_
            refine lf_aload rfl ?_
            refine lf_ldc ?_
            refine lf_callVWb (as := [.ref (mj_SC + 1 + 62)]) (rest := []) h rfl rfl lf_a1 rfl (Nat.le_trans (Nat.le_trans (by decide) hE) hd) rfl rfl (fun p29 h9 => s_Tape_takeWord (by decide : 62 < 71) h9) ?_
            intro p29 h
            refine lf_ifb_eq h (fun h => ?_) (fun h => ?_)
            · refine lf_blk B_LawText_readAtom_110 ?_
              refine lf_aload rfl ?_
              refine lf_ldc ?_
              refine lf_callVWb (as := [.ref (mj_SC + 1 + 63)]) (rest := []) h rfl rfl lf_a1 rfl (Nat.le_trans (Nat.le_trans (by decide) hE) hd) rfl rfl (fun p30 h9 => s_Tape_takeWord (by decide : 63 < 71) h9) ?_
              intro p30 h
              refine lf_ifb_eq h (fun h => ?_) (fun h => ?_)
              · refine lf_blk B_LawText_readAtom_129 ?_
                refine lf_aload rfl ?_
                refine lf_aload rfl ?_
                refine lf_callSWu (as := [.ref 1, .ref a1]) (rest := []) h rfl rfl (Nat.le_trans (Nat.le_trans (by decide) hE) hd) rfl rfl (fun p31 h9 => s_LawText_readComparison ha1 h9) ?_
                intro p31 h
                refine lf_end ?_
                refine lf_blk B_LawText_readAtom_134 ?_
                cases h
                exact lf_ret ⟨rfl, rfl, rfl⟩
              · refine lf_aload rfl ?_
                refine lf_iconst lf_c1009 ?_
                refine lf_callVWu (as := [.int (1009 : Int32)]) (rest := []) h rfl rfl (lf_Law_0 ha1) rfl (Nat.le_trans (Nat.le_trans (by decide) hE) hd) rfl rfl (fun p32 h9 => s_Law_emit ha1 h9) ?_
                intro p32 h
                refine lf_goto ?_
                refine lf_blk B_LawText_readAtom_134 ?_
                cases h
                exact lf_ret ⟨rfl, rfl, rfl⟩
            · refine lf_aload rfl ?_
              refine lf_iconst lf_c1008 ?_
              refine lf_callVWu (as := [.int (1008 : Int32)]) (rest := []) h rfl rfl (lf_Law_0 ha1) rfl (Nat.le_trans (Nat.le_trans (by decide) hE) hd) rfl rfl (fun p33 h9 => s_Law_emit ha1 h9) ?_
              intro p33 h
              refine lf_goto ?_
              refine lf_blk B_LawText_readAtom_134 ?_
              cases h
              exact lf_ret ⟨rfl, rfl, rfl⟩
          · refine lf_aload rfl ?_
            refine lf_iconst lf_c1007 ?_
            refine lf_callVWu (as := [.int (1007 : Int32)]) (rest := []) h rfl rfl (lf_Law_0 ha1) rfl (Nat.le_trans (Nat.le_trans (by decide) hE) hd) rfl rfl (fun p34 h9 => s_Law_emit ha1 h9) ?_
            intro p34 h
            refine lf_goto ?_
            refine lf_blk B_LawText_readAtom_134 ?_
            cases h
            exact lf_ret ⟨rfl, rfl, rfl⟩
        · refine lf_aload rfl ?_
          refine lf_aload rfl ?_
          refine lf_iload rfl ?_
          refine lf_iconst lf_c1 ?_
          refine lf_iadd ?_
          refine lf_callSWu (as := [.ref 1, .ref a1, .int (x2 + (1 : Int32))]) (rest := []) h rfl rfl hd rfl rfl (fun p35 h9 => hq_LawText_readAny _ _ ha1 _ _ h9) ?_
          intro p35 h
          refine lf_aload rfl ?_
          refine lf_iconst lf_c41 ?_
          refine lf_callVWb (as := [.int (41 : Int32)]) (rest := []) h rfl rfl lf_a1 rfl (Nat.le_trans (Nat.le_trans (by decide) hE) hd) rfl rfl (fun p36 h9 => s_Tape_takeSign h9) ?_
          intro p36 h
          refine lf_ifb_ne h (fun h => ?_) (fun h => ?_)
          · refine lf_blk B_LawText_readAtom_134 ?_
            cases h
            exact lf_ret ⟨rfl, rfl, rfl⟩
          · refine lf_aload rfl ?_
            refine lf_callVWu (as := []) (rest := []) h rfl rfl lf_a1 rfl (Nat.le_trans (Nat.le_trans (by decide) hE) hd) rfl rfl (fun p37 h9 => s_Tape_fail h9) ?_
            intro p37 h
            refine lf_goto ?_
            refine lf_blk B_LawText_readAtom_134 ?_
            cases h
            exact lf_ret ⟨rfl, rfl, rfl⟩
    · refine lf_aload rfl ?_
      refine lf_aload rfl ?_
      refine lf_iload rfl ?_
      refine lf_iconst lf_c1 ?_
      refine lf_iadd ?_
      refine lf_callSWu (as := [.ref 1, .ref a1, .int (x2 + (1 : Int32))]) (rest := []) h rfl rfl hd rfl rfl (fun p38 h9 => hq_LawText_readAtom _ _ ha1 _ _ h9) ?_
      intro p38 h
      refine lf_aload rfl ?_
      refine lf_iconst lf_c1010 ?_
      refine lf_callVWu (as := [.int (1010 : Int32)]) (rest := []) h rfl rfl (lf_Law_0 ha1) rfl (Nat.le_trans (Nat.le_trans (by decide) hE) hd) rfl rfl (fun p39 h9 => s_Law_emit ha1 h9) ?_
      intro p39 h
      refine lf_goto ?_
      refine lf_blk B_LawText_readAtom_134 ?_
      cases h
      exact lf_ret ⟨rfl, rfl, rfl⟩
theorem F_LawText_readAny_ok {sc : Nat × (Nat → Int32)} : ∀ (n : Nat), (∀ (a1 : Nat) (x2 : Int32) (ha1 : lf_Law a1) (s : lf_S) (p : lf_S), (F_LawText_readAny n).1 a1 x2 s = some p → lf_ok sc (5 + n) j_LawText_readAny [.ref 1, .ref a1, .int x2] s (none) p) ∧ (∀ (a1 : Nat) (x2 : Int32) (ha1 : lf_Law a1) (s : lf_S) (p : lf_S), (F_LawText_readAny n).2.1 a1 x2 s = some p → lf_ok sc (5 + n) j_LawText_readAll [.ref 1, .ref a1, .int x2] s (none) p) ∧ (∀ (a1 : Nat) (x2 : Int32) (ha1 : lf_Law a1) (s : lf_S) (p : lf_S), (F_LawText_readAny n).2.2 a1 x2 s = some p → lf_ok sc (5 + n) j_LawText_readAtom [.ref 1, .ref a1, .int x2] s (none) p) := by
  intro n
  induction n with
  | zero => exact ⟨fun _ _ _ s p h => absurd h (fun q => by cases q), fun _ _ _ s p h => absurd h (fun q => by cases q), fun _ _ _ s p h => absurd h (fun q => by cases q)⟩
  | succ n ih => exact ⟨fun a1 x2 ha1 s p h => sb_LawText_readAny (Nat.le_add_right _ _) ih.1 ih.2.1 ih.2.2 ha1 h, fun a1 x2 ha1 s p h => sb_LawText_readAll (Nat.le_add_right _ _) ih.1 ih.2.1 ih.2.2 ha1 h, fun a1 x2 ha1 s p h => sb_LawText_readAtom (Nat.le_add_right _ _) ih.1 ih.2.1 ih.2.2 ha1 h⟩
theorem s_LawText_readAny {sc : Nat × (Nat → Int32)} {a1 : Nat} {x2 : Int32} (ha1 : lf_Law a1) {s : lf_S} {p : lf_S} (h : f_LawText_readAny a1 x2 s = some p) : lf_ok sc 69 j_LawText_readAny [.ref 1, .ref a1, .int x2] s (none) p := (F_LawText_readAny_ok 64).1 a1 x2 ha1 s p h
theorem s_LawText_readAll {sc : Nat × (Nat → Int32)} {a1 : Nat} {x2 : Int32} (ha1 : lf_Law a1) {s : lf_S} {p : lf_S} (h : f_LawText_readAll a1 x2 s = some p) : lf_ok sc 69 j_LawText_readAll [.ref 1, .ref a1, .int x2] s (none) p := (F_LawText_readAny_ok 64).2.1 a1 x2 ha1 s p h
theorem s_LawText_readAtom {sc : Nat × (Nat → Int32)} {a1 : Nat} {x2 : Int32} (ha1 : lf_Law a1) {s : lf_S} {p : lf_S} (h : f_LawText_readAtom a1 x2 s = some p) : lf_ok sc 69 j_LawText_readAtom [.ref 1, .ref a1, .int x2] s (none) p := (F_LawText_readAny_ok 64).2.2 a1 x2 ha1 s p h
theorem s_LawText_read_10 {sc : Nat × (Nat → Int32)} {d : Nat} {Q : mj_Q} {cl : Bool} {rc rs : Nat} {a1 : Nat} {p : lf_S} (ha1 : lf_Law a1) (hd : 69 ≤ d) (hk : lf_wp sc d j_LawText_read Q 68 [.ref 1, mj_U, mj_U, mj_U, mj_U] [] (lf_hp p) cl rc rs) : ∀ (n : Nat) (v2 : Int32) (s : lf_S), f_LawText_read_10 a1 n v2 s = some p → lf_wp sc d j_LawText_read Q 10 [.ref 1, .ref a1, .int v2, mj_U, mj_U] [] (lf_hp s) cl rc rs := by
  intro n
  induction n with
  | zero =>
    intro v2 s h
    exact absurd h (fun z => by cases z)
  | succ n ih =>
    intro v2 s h
    unfold f_LawText_read_10 at h
    refine lf_blk B_LawText_read_10 ?_
    refine lf_iload rfl ?_
    refine lf_iconst lf_c12 ?_
    refine lf_icmp_gt h (fun h => ?_) (fun h => ?_)
    · rw [← Option.some.inj h] at hk
      exact mj_w_weak (ls := [.ref 1, mj_U, mj_U, mj_U, mj_U]) (lf_rl (lf_rr (lf_ri (lf_rl (lf_rl (lf_r0)))))) hk
    · refine lf_aload rfl ?_
      refine lf_iload rfl ?_
      refine lf_iconst lf_c12 ?_
      refine lf_callVWb (as := [.int v2, .int (12 : Int32)]) (rest := []) h rfl rfl lf_a1 rfl (Nat.le_trans (by decide) hd) rfl rfl (fun p4 h9 => s_Tape_lineComes h9) ?_
      intro p4 h
      refine lf_ifb_eq h (fun h => ?_) (fun h => ?_)
      · rw [← Option.some.inj h] at hk
        exact mj_w_weak (ls := [.ref 1, mj_U, mj_U, mj_U, mj_U]) (lf_rl (lf_rr (lf_ri (lf_rl (lf_rl (lf_r0)))))) hk
      · refine lf_aload rfl ?_
        refine lf_callSWi (as := [.ref 1]) (rest := []) h rfl rfl (Nat.le_trans (by decide) hd) rfl rfl (fun p5 h9 => s_LawText_readKind h9) ?_
        intro p5 h
        refine lf_istore (L := fun y6 => [.ref 1, .ref a1, .int v2, .int y6, mj_U]) h rfl rfl (fun _ => rfl) ?_
        intro y6 h
        refine lf_aload rfl ?_
        refine lf_iconst lf_c0 ?_
        refine lf_iconst lf_c99 ?_
        refine lf_callVWi (as := [.int (0 : Int32), .int (99 : Int32)]) (rest := []) h rfl rfl lf_a1 rfl (Nat.le_trans (by decide) hd) rfl rfl (fun p7 h9 => s_Tape_takeNumber h9) ?_
        intro p7 h
        refine lf_istore (L := fun y8 => [.ref 1, .ref a1, .int v2, .int y6, .int y8]) h rfl rfl (fun _ => rfl) ?_
        intro y8 h
        refine lf_aload rfl ?_
        refine lf_ldc ?_
        refine lf_callVWb (as := [.ref (mj_SC + 1 + 54)]) (rest := []) h rfl rfl lf_a1 rfl (Nat.le_trans (by decide) hd) rfl rfl (fun p9 h9 => s_Tape_takeWord (by decide : 54 < 71) h9) ?_
        intro p9 h
        refine lf_ifb_eq h (fun h => ?_) (fun h => ?_)
        · refine lf_blk B_LawText_read_55 ?_
          refine lf_aload rfl ?_
          refine lf_iload rfl ?_
          refine lf_iload rfl ?_
          refine lf_callVWu (as := [.int y6, .int y8]) (rest := []) h rfl rfl (lf_Law_0 ha1) rfl (Nat.le_trans (by decide) hd) rfl rfl (fun p10 h9 => s_Law_endLine ha1 h9) ?_
          intro p10 h
          refine lf_iinc (L := fun y11 => [.ref 1, .ref a1, .int y11, .int y6, .int y8]) h lf_c1 rfl rfl (fun _ => rfl) ?_
          intro y11 h
          refine lf_goto ?_
          exact mj_w_weak (ls := [.ref 1, .ref a1, .int y11, mj_U, mj_U]) (lf_rl (lf_rl (lf_rl (lf_ri (lf_ri (lf_r0)))))) (ih y11 p10 h)
        · refine lf_aload rfl ?_
          refine lf_aload rfl ?_
          refine lf_iconst lf_c0 ?_
          refine lf_callSWu (as := [.ref 1, .ref a1, .int (0 : Int32)]) (rest := []) h rfl rfl (Nat.le_trans (by decide) hd) rfl rfl (fun p12 h9 => s_LawText_readAny ha1 h9) ?_
          intro p12 h
          refine lf_end ?_
          refine lf_blk B_LawText_read_55 ?_
          refine lf_aload rfl ?_
          refine lf_iload rfl ?_
          refine lf_iload rfl ?_
          refine lf_callVWu (as := [.int y6, .int y8]) (rest := []) h rfl rfl (lf_Law_0 ha1) rfl (Nat.le_trans (by decide) hd) rfl rfl (fun p13 h9 => s_Law_endLine ha1 h9) ?_
          intro p13 h
          refine lf_iinc (L := fun y14 => [.ref 1, .ref a1, .int y14, .int y6, .int y8]) h lf_c1 rfl rfl (fun _ => rfl) ?_
          intro y14 h
          refine lf_goto ?_
          exact mj_w_weak (ls := [.ref 1, .ref a1, .int y14, mj_U, mj_U]) (lf_rl (lf_rl (lf_rl (lf_ri (lf_ri (lf_r0)))))) (ih y14 p13 h)
theorem s_LawText_read {sc : Nat × (Nat → Int32)} {a1 : Nat} (ha1 : lf_Law a1) {s : lf_S} {p : Bool × lf_S} (h : f_LawText_read a1 s = some p) : lf_ok sc 70 j_LawText_read [.ref 1, .ref a1] s (some (.int (lf_i p.1))) p.2 := by
  refine lf_in (D := 69) (ls := [.ref 1, .ref a1, mj_U, mj_U, mj_U]) rfl lf_zb rfl ?_
  intro d hd cl rc rs
  unfold f_LawText_read at h
  refine lf_blk B_LawText_read_0 ?_
  refine lf_aload rfl ?_
  refine lf_callVWu (as := []) (rest := []) h rfl rfl lf_a1 rfl (Nat.le_trans (by decide) hd) rfl rfl (fun p1 h9 => s_Tape_start h9) ?_
  intro p1 h
  refine lf_aload rfl ?_
  refine lf_callVWu (as := []) (rest := []) h rfl rfl (lf_Law_0 ha1) rfl (Nat.le_trans (by decide) hd) rfl rfl (fun p2 h9 => s_Law_clear ha1 h9) ?_
  intro p2 h
  refine lf_iconst lf_c0 ?_
  refine lf_istore (L := fun y3 => [.ref 1, .ref a1, .int y3, mj_U, mj_U]) h rfl rfl (fun _ => rfl) ?_
  intro y3 h
  refine lf_end ?_
  refine lf_loop h (fun p15 hp15 h => ?_)
  refine mj_w_weak (ls := [.ref 1, .ref a1, .int y3, mj_U, mj_U]) (lf_rl (lf_rl (lf_rl (lf_rl (lf_rl (lf_r0)))))) ?_
  refine s_LawText_read_10 ha1 (Nat.le_trans (by decide) hd) ?_ 5000 y3 p2 hp15
  refine lf_blk B_LawText_read_68 ?_
  refine lf_aload rfl ?_
  refine lf_callVRb (as := []) (rest := []) h rfl rfl lf_a1 rfl (Nat.le_trans (by decide) hd) rfl rfl (fun p16 h9 => s_Tape_failed h9) ?_
  intro p16 h
  refine lf_ifb_ne h (fun h => ?_) (fun h => ?_)
  · refine lf_blk B_LawText_read_79 ?_
    refine lf_iconst lf_c0 ?_
    refine lf_end ?_
    refine lf_blk B_LawText_read_80 ?_
    cases h
    exact lf_iret ⟨rfl, rfl, rfl⟩
  · refine lf_iconst lf_c1 ?_
    refine lf_goto ?_
    refine lf_blk B_LawText_read_80 ?_
    cases h
    exact lf_iret ⟨rfl, rfl, rfl⟩
theorem s_Main_law {sc : Nat × (Nat → Int32)} {s : lf_S} {p : (Nat ⊕ Int32) × lf_S} (h : f_Main_law s = some p) : lf_th sc 71 j_Main_law [.ref 0] s lf_vi p := by
  refine lf_inT (D := 70) (ls := [.ref 0, mj_U]) rfl (lf_zti (by decide +kernel)) rfl ?_
  intro d hd cl
  unfold f_Main_law at h
  refine lf_blk B_Main_law_0 ?_
  refine lf_aload rfl ?_
  refine lf_getr (ci := 9) (k := 0) lf_a0 rfl (by decide) rfl ?_
  refine lf_aload rfl ?_
  refine lf_getr (ci := 9) (k := 5) lf_a0 rfl (by decide) rfl ?_
  refine lf_callSWb (as := [.ref 1, .ref 64]) (rest := []) h rfl rfl (Nat.le_trans (by decide) hd) rfl rfl (fun p1 h9 => s_LawText_read lf_Law_at64 h9) ?_
  intro p1 h
  refine lf_istoreb (L := fun e2 => [.ref 0, .int (lf_i e2)]) h rfl rfl (fun _ => rfl) ?_
  intro e2 h
  refine lf_aload rfl ?_
  refine lf_getr (ci := 9) (k := 0) lf_a0 rfl (by decide) rfl ?_
  refine lf_iconst lf_c0 ?_
  refine lf_putf (ci := 7) (k := 1) h lf_a1 rfl (by decide) rfl rfl rfl ?_
  intro s3 h
  refine lf_iload rfl ?_
  refine lf_ifb_ne h (fun h => ?_) (fun h => ?_)
  · refine lf_blk B_Main_law_34 ?_
    refine lf_aload rfl ?_
    refine lf_getr (ci := 9) (k := 3) lf_a0 rfl (by decide) rfl ?_
    refine lf_aload rfl ?_
    refine lf_getr (ci := 9) (k := 5) lf_a0 rfl (by decide) rfl ?_
    refine lf_callVWu (as := [.ref 64]) (rest := []) h rfl rfl (lf_Law_0 lf_Law_at34) rfl (Nat.le_trans (by decide) hd) rfl rfl (fun p4 h9 => s_Law_copy lf_Law_at34 lf_Law_at64 h9) ?_
    intro p4 h
    refine lf_aload rfl ?_
    refine lf_iconst lf_c0 ?_
    refine lf_putf (ci := 9) (k := 10) h lf_a0 rfl (by decide) rfl rfl rfl ?_
    intro s5 h
    refine lf_aload rfl ?_
    refine lf_getr (ci := 9) (k := 3) lf_a0 rfl (by decide) rfl ?_
    refine lf_getf (ci := 4) (k := 0) (lf_Law_0 lf_Law_at34) rfl (by decide) rfl ?_
    cases h
    exact lf_iret ⟨rfl, rfl, rfl⟩
  · cases h
    exact lf_throw rfl
theorem s_Main_needIndex {sc : Nat × (Nat → Int32)} {x0 : Int32} {x1 : Int32} {x2 : Int32} {s : lf_S} {p : (Nat ⊕ Unit) × lf_S} (h : f_Main_needIndex x0 x1 x2 s = some p) : lf_th sc 1 j_Main_needIndex [.int x0, .int x1, .int x2] s lf_vu p := by
  refine lf_inT (D := 0) (ls := [.int x0, .int x1, .int x2]) rfl (lf_zti (by decide +kernel)) rfl ?_
  intro d hd cl
  unfold f_Main_needIndex at h
  refine lf_blk B_Main_needIndex_0 ?_
  refine lf_iload rfl ?_
  refine lf_iload rfl ?_
  refine lf_icmp_lt h (fun h => ?_) (fun h => ?_)
  · refine lf_blk B_Main_needIndex_10 ?_
    cases h
    exact lf_throw rfl
  · refine lf_iload rfl ?_
    refine lf_iload rfl ?_
    refine lf_icmp_le h (fun h => ?_) (fun h => ?_)
    · refine lf_blk B_Main_needIndex_21 ?_
      cases h
      exact lf_ret ⟨rfl, rfl, rfl⟩
    · refine lf_end ?_
      refine lf_blk B_Main_needIndex_10 ?_
      cases h
      exact lf_throw rfl
theorem s_Main_needBed {sc : Nat × (Nat → Int32)} {x1 : Int32} {s : lf_S} {p : (Nat ⊕ Unit) × lf_S} (h : f_Main_needBed x1 s = some p) : lf_th sc 2 j_Main_needBed [.ref 0, .int x1] s lf_vu p := by
  refine lf_inT (D := 1) (ls := [.ref 0, .int x1]) rfl (lf_zti (by decide +kernel)) rfl ?_
  intro d hd cl
  unfold f_Main_needBed at h
  refine lf_blk B_Main_needBed_0 ?_
  refine lf_iload rfl ?_
  refine lf_iconst lf_c0 ?_
  refine lf_aload rfl ?_
  refine lf_getr (ci := 9) (k := 2) lf_a0 rfl (by decide) rfl ?_
  refine lf_getr (ci := 3) (k := 0) (lf_Holt_0 lf_Holt_at10) rfl (by decide) rfl ?_
  refine lf_getf (ci := 1) (k := 0) (lf_Beds_0 (lf_Holt_1 lf_Holt_at10)) rfl (by decide) rfl ?_
  refine lf_iconst lf_c1 ?_
  refine lf_isub ?_
  refine lf_callSTu (as := [.int x1, .int (0 : Int32), .int ((s.1 (10 + 1) 0) - (1 : Int32))]) (rest := []) h rfl rfl (Nat.le_trans (by decide) hd) rfl rfl (by decide +kernel) (fun p h9 => s_Main_needIndex h9) ?_
  intro v1 s2 h
  cases h
  exact lf_ret ⟨rfl, rfl, rfl⟩
theorem s_Main_bed {sc : Nat × (Nat → Int32)} {x1 : Int32} {x2 : Int32} {s : lf_S} {p : (Nat ⊕ Int32) × lf_S} (h : f_Main_bed x1 x2 s = some p) : lf_th sc 7 j_Main_bed [.ref 0, .int x1, .int x2] s lf_vi p := by
  refine lf_inT (D := 6) (ls := [.ref 0, .int x1, .int x2]) rfl (lf_zti (by decide +kernel)) rfl ?_
  intro d hd cl
  unfold f_Main_bed at h
  refine lf_blk B_Main_bed_0 ?_
  refine lf_aload rfl ?_
  refine lf_iload rfl ?_
  refine lf_callVTu (as := [.int x1]) (rest := []) h rfl rfl lf_a0 rfl (Nat.le_trans (by decide) hd) rfl rfl (by decide +kernel) (fun p h9 => s_Main_needBed h9) ?_
  intro v1 s2 h
  refine lf_iload rfl ?_
  refine lf_swv h ?_
  intro y3 h
  by_cases c0 : y3 = (0 : Int32)
  · rw [if_pos c0] at h
    subst c0
    refine ⟨_, _, rfl, fun c => absurd c (by decide +kernel), fun _ => ⟨_, rfl, ?_⟩⟩
    refine lf_blk B_Main_bed_52 ?_
    refine lf_aload rfl ?_
    refine lf_getr (ci := 9) (k := 2) lf_a0 rfl (by decide) rfl ?_
    refine lf_getr (ci := 3) (k := 0) (lf_Holt_0 lf_Holt_at10) rfl (by decide) rfl ?_
    refine lf_getr (ci := 1) (k := 1) (lf_Beds_0 (lf_Holt_1 lf_Holt_at10)) rfl (by decide) rfl ?_
    refine lf_iload rfl ?_
    refine lf_iald h (lf_Beds_1 (lf_Holt_1 lf_Holt_at10)) ?_
    intro k4 h
    cases h
    exact lf_iret ⟨rfl, rfl, rfl⟩
  rw [if_neg c0] at h
  by_cases c1 : y3 = (1 : Int32)
  · rw [if_pos c1] at h
    subst c1
    refine ⟨_, _, rfl, fun c => absurd c (by decide +kernel), fun _ => ⟨_, rfl, ?_⟩⟩
    refine lf_blk B_Main_bed_65 ?_
    refine lf_aload rfl ?_
    refine lf_getr (ci := 9) (k := 2) lf_a0 rfl (by decide) rfl ?_
    refine lf_getr (ci := 3) (k := 0) (lf_Holt_0 lf_Holt_at10) rfl (by decide) rfl ?_
    refine lf_getr (ci := 1) (k := 2) (lf_Beds_0 (lf_Holt_1 lf_Holt_at10)) rfl (by decide) rfl ?_
    refine lf_iload rfl ?_
    refine lf_iald h (lf_Beds_2 (lf_Holt_1 lf_Holt_at10)) ?_
    intro k5 h
    cases h
    exact lf_iret ⟨rfl, rfl, rfl⟩
  rw [if_neg c1] at h
  by_cases c2 : y3 = (2 : Int32)
  · rw [if_pos c2] at h
    subst c2
    refine ⟨_, _, rfl, fun c => absurd c (by decide +kernel), fun _ => ⟨_, rfl, ?_⟩⟩
    refine lf_blk B_Main_bed_78 ?_
    refine lf_aload rfl ?_
    refine lf_getr (ci := 9) (k := 2) lf_a0 rfl (by decide) rfl ?_
    refine lf_getr (ci := 3) (k := 0) (lf_Holt_0 lf_Holt_at10) rfl (by decide) rfl ?_
    refine lf_getr (ci := 1) (k := 3) (lf_Beds_0 (lf_Holt_1 lf_Holt_at10)) rfl (by decide) rfl ?_
    refine lf_iload rfl ?_
    refine lf_iald h (lf_Beds_3 (lf_Holt_1 lf_Holt_at10)) ?_
    intro k6 h
    cases h
    exact lf_iret ⟨rfl, rfl, rfl⟩
  rw [if_neg c2] at h
  by_cases c3 : y3 = (3 : Int32)
  · rw [if_pos c3] at h
    subst c3
    refine ⟨_, _, rfl, fun c => absurd c (by decide +kernel), fun _ => ⟨_, rfl, ?_⟩⟩
    refine lf_blk B_Main_bed_91 ?_
    refine lf_aload rfl ?_
    refine lf_getr (ci := 9) (k := 2) lf_a0 rfl (by decide) rfl ?_
    refine lf_getr (ci := 3) (k := 0) (lf_Holt_0 lf_Holt_at10) rfl (by decide) rfl ?_
    refine lf_getr (ci := 1) (k := 4) (lf_Beds_0 (lf_Holt_1 lf_Holt_at10)) rfl (by decide) rfl ?_
    refine lf_iload rfl ?_
    refine lf_iald h (lf_Beds_4 (lf_Holt_1 lf_Holt_at10)) ?_
    intro k7 h
    cases h
    exact lf_iret ⟨rfl, rfl, rfl⟩
  rw [if_neg c3] at h
  by_cases c4 : y3 = (4 : Int32)
  · rw [if_pos c4] at h
    subst c4
    refine ⟨_, _, rfl, fun c => absurd c (by decide +kernel), fun _ => ⟨_, rfl, ?_⟩⟩
    refine lf_blk B_Main_bed_104 ?_
    refine lf_aload rfl ?_
    refine lf_getr (ci := 9) (k := 3) lf_a0 rfl (by decide) rfl ?_
    refine lf_aload rfl ?_
    refine lf_getr (ci := 9) (k := 2) lf_a0 rfl (by decide) rfl ?_
    refine lf_iload rfl ?_
    refine lf_callVWi (as := [.ref 10, .int x1]) (rest := []) h rfl rfl (lf_Law_0 lf_Law_at34) rfl (Nat.le_trans (by decide) hd) rfl rfl (fun p8 h9 => s_Law_reachOf lf_Law_at34 lf_Holt_at10 h9) ?_
    intro p8 h
    cases h
    exact lf_iret ⟨rfl, rfl, rfl⟩
  rw [if_neg c4] at h
  by_cases c5 : y3 = (5 : Int32)
  · rw [if_pos c5] at h
    subst c5
    refine ⟨_, _, rfl, fun c => absurd c (by decide +kernel), fun _ => ⟨_, rfl, ?_⟩⟩
    refine lf_blk B_Main_bed_117 ?_
    refine lf_aload rfl ?_
    refine lf_getr (ci := 9) (k := 3) lf_a0 rfl (by decide) rfl ?_
    refine lf_aload rfl ?_
    refine lf_getr (ci := 9) (k := 2) lf_a0 rfl (by decide) rfl ?_
    refine lf_iload rfl ?_
    refine lf_callVWi (as := [.ref 10, .int x1]) (rest := []) h rfl rfl (lf_Law_0 lf_Law_at34) rfl (Nat.le_trans (by decide) hd) rfl rfl (fun p9 h9 => s_Law_yieldOf lf_Law_at34 lf_Holt_at10 h9) ?_
    intro p9 h
    cases h
    exact lf_iret ⟨rfl, rfl, rfl⟩
  rw [if_neg c5] at h
  by_cases c6 : y3 = (6 : Int32)
  · rw [if_pos c6] at h
    subst c6
    refine ⟨_, _, rfl, fun c => absurd c (by decide +kernel), fun _ => ⟨_, rfl, ?_⟩⟩
    refine lf_blk B_Main_bed_130 ?_
    refine lf_aload rfl ?_
    refine lf_getr (ci := 9) (k := 3) lf_a0 rfl (by decide) rfl ?_
    refine lf_aload rfl ?_
    refine lf_getr (ci := 9) (k := 2) lf_a0 rfl (by decide) rfl ?_
    refine lf_iload rfl ?_
    refine lf_callVWi (as := [.ref 10, .int x1]) (rest := []) h rfl rfl (lf_Law_0 lf_Law_at34) rfl (Nat.le_trans (by decide) hd) rfl rfl (fun p10 h9 => s_Law_costOf lf_Law_at34 lf_Holt_at10 h9) ?_
    intro p10 h
    cases h
    exact lf_iret ⟨rfl, rfl, rfl⟩
  rw [if_neg c6] at h
  by_cases c7 : y3 = (7 : Int32)
  · rw [if_pos c7] at h
    subst c7
    refine ⟨_, _, rfl, fun c => absurd c (by decide +kernel), fun _ => ⟨_, rfl, ?_⟩⟩
    refine lf_blk B_Main_bed_143 ?_
    refine lf_aload rfl ?_
    refine lf_getr (ci := 9) (k := 2) lf_a0 rfl (by decide) rfl ?_
    refine lf_getr (ci := 3) (k := 0) (lf_Holt_0 lf_Holt_at10) rfl (by decide) rfl ?_
    refine lf_iload rfl ?_
    refine lf_callVRi (as := [.int x1]) (rest := []) h rfl rfl (lf_Beds_0 (lf_Holt_1 lf_Holt_at10)) rfl (Nat.le_trans (by decide) hd) rfl rfl (fun p11 h9 => s_Beds_partOf (lf_Holt_1 lf_Holt_at10) h9) ?_
    intro p11 h
    cases h
    exact lf_iret ⟨rfl, rfl, rfl⟩
  rw [if_neg c7] at h
  refine ⟨_, _, rfl, fun _ => ?_, fun c => ?_⟩
  · refine lf_blk B_Main_bed_155 ?_
    cases h
    exact lf_throw rfl
  · exfalso
    have d0 : y3.toInt ≠ 0 := fun e => c0 (Int32.toInt_inj.mp (e.trans (by decide +kernel)))
    have d1 : y3.toInt ≠ 1 := fun e => c1 (Int32.toInt_inj.mp (e.trans (by decide +kernel)))
    have d2 : y3.toInt ≠ 2 := fun e => c2 (Int32.toInt_inj.mp (e.trans (by decide +kernel)))
    have d3 : y3.toInt ≠ 3 := fun e => c3 (Int32.toInt_inj.mp (e.trans (by decide +kernel)))
    have d4 : y3.toInt ≠ 4 := fun e => c4 (Int32.toInt_inj.mp (e.trans (by decide +kernel)))
    have d5 : y3.toInt ≠ 5 := fun e => c5 (Int32.toInt_inj.mp (e.trans (by decide +kernel)))
    have d6 : y3.toInt ≠ 6 := fun e => c6 (Int32.toInt_inj.mp (e.trans (by decide +kernel)))
    have d7 : y3.toInt ≠ 7 := fun e => c7 (Int32.toInt_inj.mp (e.trans (by decide +kernel)))
    omega
theorem s_Main_needBasket {sc : Nat × (Nat → Int32)} {x1 : Int32} {s : lf_S} {p : (Nat ⊕ Unit) × lf_S} (h : f_Main_needBasket x1 s = some p) : lf_th sc 2 j_Main_needBasket [.ref 0, .int x1] s lf_vu p := by
  refine lf_inT (D := 1) (ls := [.ref 0, .int x1]) rfl (lf_zti (by decide +kernel)) rfl ?_
  intro d hd cl
  unfold f_Main_needBasket at h
  refine lf_blk B_Main_needBasket_0 ?_
  refine lf_iload rfl ?_
  refine lf_iconst lf_c0 ?_
  refine lf_aload rfl ?_
  refine lf_getr (ci := 9) (k := 2) lf_a0 rfl (by decide) rfl ?_
  refine lf_getr (ci := 3) (k := 1) (lf_Holt_0 lf_Holt_at10) rfl (by decide) rfl ?_
  refine lf_getf (ci := 0) (k := 0) (lf_Baskets_0 (lf_Holt_6 lf_Holt_at10)) rfl (by decide) rfl ?_
  refine lf_iconst lf_c1 ?_
  refine lf_isub ?_
  refine lf_callSTu (as := [.int x1, .int (0 : Int32), .int ((s.1 (10 + 6) 0) - (1 : Int32))]) (rest := []) h rfl rfl (Nat.le_trans (by decide) hd) rfl rfl (by decide +kernel) (fun p h9 => s_Main_needIndex h9) ?_
  intro v1 s2 h
  cases h
  exact lf_ret ⟨rfl, rfl, rfl⟩
theorem s_Main_basket {sc : Nat × (Nat → Int32)} {x1 : Int32} {x2 : Int32} {s : lf_S} {p : (Nat ⊕ Int32) × lf_S} (h : f_Main_basket x1 x2 s = some p) : lf_th sc 5 j_Main_basket [.ref 0, .int x1, .int x2] s lf_vi p := by
  refine lf_inT (D := 4) (ls := [.ref 0, .int x1, .int x2, mj_U]) rfl (lf_zti (by decide +kernel)) rfl ?_
  intro d hd cl
  unfold f_Main_basket at h
  refine lf_blk B_Main_basket_0 ?_
  refine lf_aload rfl ?_
  refine lf_iload rfl ?_
  refine lf_callVTu (as := [.int x1]) (rest := []) h rfl rfl lf_a0 rfl (Nat.le_trans (by decide) hd) rfl rfl (by decide +kernel) (fun p h9 => s_Main_needBasket h9) ?_
  intro v1 s2 h
  refine lf_aload rfl ?_
  refine lf_getr (ci := 9) (k := 2) lf_a0 rfl (by decide) rfl ?_
  refine lf_getr (ci := 3) (k := 1) (lf_Holt_0 lf_Holt_at10) rfl (by decide) rfl ?_
  refine lf_astore (L := [.ref 0, .int x1, .int x2, .ref (10 + 6)]) rfl rfl rfl ?_
  refine lf_iload rfl ?_
  refine lf_swv h ?_
  intro y3 h
  by_cases c0 : y3 = (0 : Int32)
  · rw [if_pos c0] at h
    subst c0
    refine ⟨_, _, rfl, fun c => absurd c (by decide +kernel), fun _ => ⟨_, rfl, ?_⟩⟩
    refine lf_blk B_Main_basket_80 ?_
    refine lf_aload rfl ?_
    refine lf_getr (ci := 0) (k := 1) (lf_Baskets_0 (lf_Holt_6 lf_Holt_at10)) rfl (by decide) rfl ?_
    refine lf_iload rfl ?_
    refine lf_iald h (lf_Baskets_1 (lf_Holt_6 lf_Holt_at10)) ?_
    intro k4 h
    cases h
    exact lf_iret ⟨rfl, rfl, rfl⟩
  rw [if_neg c0] at h
  by_cases c1 : y3 = (1 : Int32)
  · rw [if_pos c1] at h
    subst c1
    refine ⟨_, _, rfl, fun c => absurd c (by decide +kernel), fun _ => ⟨_, rfl, ?_⟩⟩
    refine lf_blk B_Main_basket_87 ?_
    refine lf_aload rfl ?_
    refine lf_getr (ci := 0) (k := 2) (lf_Baskets_0 (lf_Holt_6 lf_Holt_at10)) rfl (by decide) rfl ?_
    refine lf_iload rfl ?_
    refine lf_iald h (lf_Baskets_2 (lf_Holt_6 lf_Holt_at10)) ?_
    intro k5 h
    cases h
    exact lf_iret ⟨rfl, rfl, rfl⟩
  rw [if_neg c1] at h
  by_cases c2 : y3 = (2 : Int32)
  · rw [if_pos c2] at h
    subst c2
    refine ⟨_, _, rfl, fun c => absurd c (by decide +kernel), fun _ => ⟨_, rfl, ?_⟩⟩
    refine lf_blk B_Main_basket_94 ?_
    refine lf_aload rfl ?_
    refine lf_getr (ci := 0) (k := 3) (lf_Baskets_0 (lf_Holt_6 lf_Holt_at10)) rfl (by decide) rfl ?_
    refine lf_iload rfl ?_
    refine lf_iald h (lf_Baskets_3 (lf_Holt_6 lf_Holt_at10)) ?_
    intro k6 h
    cases h
    exact lf_iret ⟨rfl, rfl, rfl⟩
  rw [if_neg c2] at h
  by_cases c3 : y3 = (3 : Int32)
  · rw [if_pos c3] at h
    subst c3
    refine ⟨_, _, rfl, fun c => absurd c (by decide +kernel), fun _ => ⟨_, rfl, ?_⟩⟩
    refine lf_blk B_Main_basket_101 ?_
    refine lf_aload rfl ?_
    refine lf_getr (ci := 0) (k := 4) (lf_Baskets_0 (lf_Holt_6 lf_Holt_at10)) rfl (by decide) rfl ?_
    refine lf_iload rfl ?_
    refine lf_iald h (lf_Baskets_4 (lf_Holt_6 lf_Holt_at10)) ?_
    intro k7 h
    cases h
    exact lf_iret ⟨rfl, rfl, rfl⟩
  rw [if_neg c3] at h
  by_cases c4 : y3 = (4 : Int32)
  · rw [if_pos c4] at h
    subst c4
    refine ⟨_, _, rfl, fun c => absurd c (by decide +kernel), fun _ => ⟨_, rfl, ?_⟩⟩
    refine lf_blk B_Main_basket_108 ?_
    refine lf_aload rfl ?_
    refine lf_iload rfl ?_
    refine lf_callVRi (as := [.int x1]) (rest := []) h rfl rfl (lf_Baskets_0 (lf_Holt_6 lf_Holt_at10)) rfl (Nat.le_trans (by decide) hd) rfl rfl (fun p8 h9 => s_Baskets_needOf (lf_Holt_6 lf_Holt_at10) h9) ?_
    intro p8 h
    cases h
    exact lf_iret ⟨rfl, rfl, rfl⟩
  rw [if_neg c4] at h
  by_cases c5 : y3 = (5 : Int32)
  · rw [if_pos c5] at h
    subst c5
    refine ⟨_, _, rfl, fun c => absurd c (by decide +kernel), fun _ => ⟨_, rfl, ?_⟩⟩
    refine lf_blk B_Main_basket_114 ?_
    refine lf_aload rfl ?_
    refine lf_getr (ci := 0) (k := 6) (lf_Baskets_0 (lf_Holt_6 lf_Holt_at10)) rfl (by decide) rfl ?_
    refine lf_iload rfl ?_
    refine lf_iald h (lf_Baskets_6 (lf_Holt_6 lf_Holt_at10)) ?_
    intro k9 h
    cases h
    exact lf_iret ⟨rfl, rfl, rfl⟩
  rw [if_neg c5] at h
  by_cases c6 : y3 = (6 : Int32)
  · rw [if_pos c6] at h
    subst c6
    refine ⟨_, _, rfl, fun c => absurd c (by decide +kernel), fun _ => ⟨_, rfl, ?_⟩⟩
    refine lf_blk B_Main_basket_121 ?_
    refine lf_aload rfl ?_
    refine lf_iload rfl ?_
    refine lf_callVRi (as := [.int x1]) (rest := []) h rfl rfl (lf_Baskets_0 (lf_Holt_6 lf_Holt_at10)) rfl (Nat.le_trans (by decide) hd) rfl rfl (fun p10 h9 => s_Baskets_againOf (lf_Holt_6 lf_Holt_at10) h9) ?_
    intro p10 h
    cases h
    exact lf_iret ⟨rfl, rfl, rfl⟩
  rw [if_neg c6] at h
  by_cases c7 : y3 = (7 : Int32)
  · rw [if_pos c7] at h
    subst c7
    refine ⟨_, _, rfl, fun c => absurd c (by decide +kernel), fun _ => ⟨_, rfl, ?_⟩⟩
    refine lf_blk B_Main_basket_127 ?_
    refine lf_aload rfl ?_
    refine lf_iload rfl ?_
    refine lf_aload rfl ?_
    refine lf_getr (ci := 0) (k := 1) (lf_Baskets_0 (lf_Holt_6 lf_Holt_at10)) rfl (by decide) rfl ?_
    refine lf_iload rfl ?_
    refine lf_iald h (lf_Baskets_1 (lf_Holt_6 lf_Holt_at10)) ?_
    intro k11 h
    refine lf_callVRi (as := [.int x1, .int (s2.1 ((10 + 6) + 1) k11)]) (rest := []) h rfl rfl (lf_Baskets_0 (lf_Holt_6 lf_Holt_at10)) rfl (Nat.le_trans (by decide) hd) rfl rfl (fun p12 h9 => s_Baskets_looseOf (lf_Holt_6 lf_Holt_at10) h9) ?_
    intro p12 h
    cases h
    exact lf_iret ⟨rfl, rfl, rfl⟩
  rw [if_neg c7] at h
  by_cases c8 : y3 = (8 : Int32)
  · rw [if_pos c8] at h
    subst c8
    refine ⟨_, _, rfl, fun c => absurd c (by decide +kernel), fun _ => ⟨_, rfl, ?_⟩⟩
    refine lf_blk B_Main_basket_139 ?_
    refine lf_aload rfl ?_
    refine lf_iload rfl ?_
    refine lf_callVRi (as := [.int x1]) (rest := []) h rfl rfl (lf_Baskets_0 (lf_Holt_6 lf_Holt_at10)) rfl (Nat.le_trans (by decide) hd) rfl rfl (fun p13 h9 => s_Baskets_floatOf (lf_Holt_6 lf_Holt_at10) h9) ?_
    intro p13 h
    cases h
    exact lf_iret ⟨rfl, rfl, rfl⟩
  rw [if_neg c8] at h
  by_cases c9 : y3 = (9 : Int32)
  · rw [if_pos c9] at h
    subst c9
    refine ⟨_, _, rfl, fun c => absurd c (by decide +kernel), fun _ => ⟨_, rfl, ?_⟩⟩
    refine lf_blk B_Main_basket_145 ?_
    refine lf_aload rfl ?_
    refine lf_iload rfl ?_
    refine lf_callVRi (as := [.int x1]) (rest := []) h rfl rfl (lf_Baskets_0 (lf_Holt_6 lf_Holt_at10)) rfl (Nat.le_trans (by decide) hd) rfl rfl (fun p14 h9 => s_Baskets_dropOf (lf_Holt_6 lf_Holt_at10) h9) ?_
    intro p14 h
    cases h
    exact lf_iret ⟨rfl, rfl, rfl⟩
  rw [if_neg c9] at h
  by_cases c10 : y3 = (10 : Int32)
  · rw [if_pos c10] at h
    subst c10
    refine ⟨_, _, rfl, fun c => absurd c (by decide +kernel), fun _ => ⟨_, rfl, ?_⟩⟩
    refine lf_blk B_Main_basket_151 ?_
    refine lf_aload rfl ?_
    refine lf_iload rfl ?_
    refine lf_callVRi (as := [.int x1]) (rest := []) h rfl rfl (lf_Baskets_0 (lf_Holt_6 lf_Holt_at10)) rfl (Nat.le_trans (by decide) hd) rfl rfl (fun p15 h9 => s_Baskets_blindOf (lf_Holt_6 lf_Holt_at10) h9) ?_
    intro p15 h
    cases h
    exact lf_iret ⟨rfl, rfl, rfl⟩
  rw [if_neg c10] at h
  by_cases c11 : y3 = (11 : Int32)
  · rw [if_pos c11] at h
    subst c11
    refine ⟨_, _, rfl, fun c => absurd c (by decide +kernel), fun _ => ⟨_, rfl, ?_⟩⟩
    refine lf_blk B_Main_basket_157 ?_
    refine lf_aload rfl ?_
    refine lf_iload rfl ?_
    refine lf_callVRi (as := [.int x1]) (rest := []) h rfl rfl (lf_Baskets_0 (lf_Holt_6 lf_Holt_at10)) rfl (Nat.le_trans (by decide) hd) rfl rfl (fun p16 h9 => s_Baskets_fitOf (lf_Holt_6 lf_Holt_at10) h9) ?_
    intro p16 h
    cases h
    exact lf_iret ⟨rfl, rfl, rfl⟩
  rw [if_neg c11] at h
  by_cases c12 : y3 = (12 : Int32)
  · rw [if_pos c12] at h
    subst c12
    refine ⟨_, _, rfl, fun c => absurd c (by decide +kernel), fun _ => ⟨_, rfl, ?_⟩⟩
    refine lf_blk B_Main_basket_163 ?_
    refine lf_aload rfl ?_
    refine lf_getr (ci := 9) (k := 1) lf_a0 rfl (by decide) rfl ?_
    refine lf_aload rfl ?_
    refine lf_iload rfl ?_
    refine lf_callVWi (as := [.ref (10 + 6), .int x1]) (rest := []) h rfl rfl lf_a3 rfl (Nat.le_trans (by decide) hd) rfl rfl (fun p17 h9 => s_Ways_nearest (lf_Holt_6 lf_Holt_at10) h9) ?_
    intro p17 h
    cases h
    exact lf_iret ⟨rfl, rfl, rfl⟩
  rw [if_neg c12] at h
  refine ⟨_, _, rfl, fun _ => ?_, fun c => ?_⟩
  · refine lf_blk B_Main_basket_173 ?_
    cases h
    exact lf_throw rfl
  · exfalso
    have d0 : y3.toInt ≠ 0 := fun e => c0 (Int32.toInt_inj.mp (e.trans (by decide +kernel)))
    have d1 : y3.toInt ≠ 1 := fun e => c1 (Int32.toInt_inj.mp (e.trans (by decide +kernel)))
    have d2 : y3.toInt ≠ 2 := fun e => c2 (Int32.toInt_inj.mp (e.trans (by decide +kernel)))
    have d3 : y3.toInt ≠ 3 := fun e => c3 (Int32.toInt_inj.mp (e.trans (by decide +kernel)))
    have d4 : y3.toInt ≠ 4 := fun e => c4 (Int32.toInt_inj.mp (e.trans (by decide +kernel)))
    have d5 : y3.toInt ≠ 5 := fun e => c5 (Int32.toInt_inj.mp (e.trans (by decide +kernel)))
    have d6 : y3.toInt ≠ 6 := fun e => c6 (Int32.toInt_inj.mp (e.trans (by decide +kernel)))
    have d7 : y3.toInt ≠ 7 := fun e => c7 (Int32.toInt_inj.mp (e.trans (by decide +kernel)))
    have d8 : y3.toInt ≠ 8 := fun e => c8 (Int32.toInt_inj.mp (e.trans (by decide +kernel)))
    have d9 : y3.toInt ≠ 9 := fun e => c9 (Int32.toInt_inj.mp (e.trans (by decide +kernel)))
    have d10 : y3.toInt ≠ 10 := fun e => c10 (Int32.toInt_inj.mp (e.trans (by decide +kernel)))
    have d11 : y3.toInt ≠ 11 := fun e => c11 (Int32.toInt_inj.mp (e.trans (by decide +kernel)))
    have d12 : y3.toInt ≠ 12 := fun e => c12 (Int32.toInt_inj.mp (e.trans (by decide +kernel)))
    omega
theorem s_Main_run {sc : Nat × (Nat → Int32)} {x1 : Int32} {x2 : Int32} {s : lf_S} {p : (Nat ⊕ Int32) × lf_S} (h : f_Main_run x1 x2 s = some p) : lf_th sc 3 j_Main_run [.ref 0, .int x1, .int x2] s lf_vi p := by
  refine lf_inT (D := 2) (ls := [.ref 0, .int x1, .int x2]) rfl (lf_zti (by decide +kernel)) rfl ?_
  intro d hd cl
  unfold f_Main_run at h
  refine lf_blk B_Main_run_0 ?_
  refine lf_aload rfl ?_
  refine lf_iload rfl ?_
  refine lf_callVTu (as := [.int x1]) (rest := []) h rfl rfl lf_a0 rfl (Nat.le_trans (by decide) hd) rfl rfl (by decide +kernel) (fun p h9 => s_Main_needBasket h9) ?_
  intro v1 s2 h
  refine lf_iload rfl ?_
  refine lf_if_lt h (fun h => ?_) (fun h => ?_)
  · refine lf_blk B_Main_run_25 ?_
    refine lf_iconst lf_cm1 ?_
    cases h
    exact lf_iret ⟨rfl, rfl, rfl⟩
  · refine lf_iload rfl ?_
    refine lf_aload rfl ?_
    refine lf_getr (ci := 9) (k := 2) lf_a0 rfl (by decide) rfl ?_
    refine lf_getr (ci := 3) (k := 1) (lf_Holt_0 lf_Holt_at10) rfl (by decide) rfl ?_
    refine lf_getr (ci := 0) (k := 5) (lf_Baskets_0 (lf_Holt_6 lf_Holt_at10)) rfl (by decide) rfl ?_
    refine lf_iload rfl ?_
    refine lf_iald h (lf_Baskets_5 (lf_Holt_6 lf_Holt_at10)) ?_
    intro k3 h
    refine lf_icmp_lt h (fun h => ?_) (fun h => ?_)
    · refine lf_blk B_Main_run_27 ?_
      refine lf_aload rfl ?_
      refine lf_getr (ci := 9) (k := 2) lf_a0 rfl (by decide) rfl ?_
      refine lf_getr (ci := 3) (k := 1) (lf_Holt_0 lf_Holt_at10) rfl (by decide) rfl ?_
      refine lf_iload rfl ?_
      refine lf_iload rfl ?_
      refine lf_callVRi (as := [.int x1, .int x2]) (rest := []) h rfl rfl (lf_Baskets_0 (lf_Holt_6 lf_Holt_at10)) rfl (Nat.le_trans (by decide) hd) rfl rfl (fun p4 h9 => s_Baskets_runOf (lf_Holt_6 lf_Holt_at10) h9) ?_
      intro p4 h
      cases h
      exact lf_iret ⟨rfl, rfl, rfl⟩
    · refine lf_end ?_
      refine lf_blk B_Main_run_25 ?_
      refine lf_iconst lf_cm1 ?_
      cases h
      exact lf_iret ⟨rfl, rfl, rfl⟩
theorem s_Main_over {sc : Nat × (Nat → Int32)} {x1 : Int32} {x2 : Int32} {x3 : Int32} {s : lf_S} {p : (Nat ⊕ Bool) × lf_S} (h : f_Main_over x1 x2 x3 s = some p) : lf_th sc 3 j_Main_over [.ref 0, .int x1, .int x2, .int x3] s lf_vb p := by
  refine lf_inT (D := 2) (ls := [.ref 0, .int x1, .int x2, .int x3, mj_U]) rfl lf_ztb rfl ?_
  intro d hd cl
  unfold f_Main_over at h
  refine lf_blk B_Main_over_0 ?_
  refine lf_aload rfl ?_
  refine lf_iload rfl ?_
  refine lf_callVTu (as := [.int x1]) (rest := []) h rfl rfl lf_a0 rfl (Nat.le_trans (by decide) hd) rfl rfl (by decide +kernel) (fun p h9 => s_Main_needBasket h9) ?_
  intro v1 s2 h
  refine lf_aload rfl ?_
  refine lf_getr (ci := 9) (k := 2) lf_a0 rfl (by decide) rfl ?_
  refine lf_getr (ci := 3) (k := 1) (lf_Holt_0 lf_Holt_at10) rfl (by decide) rfl ?_
  refine lf_getr (ci := 0) (k := 1) (lf_Baskets_0 (lf_Holt_6 lf_Holt_at10)) rfl (by decide) rfl ?_
  refine lf_iload rfl ?_
  refine lf_iald h (lf_Baskets_1 (lf_Holt_6 lf_Holt_at10)) ?_
  intro k3 h
  refine lf_istore (L := fun y4 => [.ref 0, .int x1, .int x2, .int x3, .int y4]) h rfl rfl (fun _ => rfl) ?_
  intro y4 h
  refine lf_iload rfl ?_
  refine lf_if_lt h (fun h => ?_) (fun h => ?_)
  · refine lf_blk B_Main_over_49 ?_
    cases h
    exact lf_throw rfl
  · refine lf_iload rfl ?_
    refine lf_aload rfl ?_
    refine lf_getr (ci := 9) (k := 2) lf_a0 rfl (by decide) rfl ?_
    refine lf_getr (ci := 3) (k := 1) (lf_Holt_0 lf_Holt_at10) rfl (by decide) rfl ?_
    refine lf_getr (ci := 0) (k := 2) (lf_Baskets_0 (lf_Holt_6 lf_Holt_at10)) rfl (by decide) rfl ?_
    refine lf_iload rfl ?_
    refine lf_iald h (lf_Baskets_2 (lf_Holt_6 lf_Holt_at10)) ?_
    intro k5 h
    refine lf_icmp_ge h (fun h => ?_) (fun h => ?_)
    · refine lf_blk B_Main_over_49 ?_
      cases h
      exact lf_throw rfl
    · refine lf_iload rfl ?_
      refine lf_if_lt h (fun h => ?_) (fun h => ?_)
      · refine lf_blk B_Main_over_49 ?_
        cases h
        exact lf_throw rfl
      · refine lf_iload rfl ?_
        refine lf_iload rfl ?_
        refine lf_icmp_lt h (fun h => ?_) (fun h => ?_)
        · refine lf_blk B_Main_over_59 ?_
          refine lf_aload rfl ?_
          refine lf_getr (ci := 9) (k := 2) lf_a0 rfl (by decide) rfl ?_
          refine lf_getr (ci := 3) (k := 1) (lf_Holt_0 lf_Holt_at10) rfl (by decide) rfl ?_
          refine lf_iload rfl ?_
          refine lf_iload rfl ?_
          refine lf_iload rfl ?_
          refine lf_imul ?_
          refine lf_iload rfl ?_
          refine lf_iadd ?_
          refine lf_callVRb (as := [.int x1, .int ((x2 * y4) + x3)]) (rest := []) h rfl rfl (lf_Baskets_0 (lf_Holt_6 lf_Holt_at10)) rfl (Nat.le_trans (by decide) hd) rfl rfl (fun p6 h9 => s_Baskets_passesOver (lf_Holt_6 lf_Holt_at10) h9) ?_
          intro p6 h
          cases h
          exact lf_iret ⟨rfl, rfl, rfl⟩
        · refine lf_end ?_
          refine lf_blk B_Main_over_49 ?_
          cases h
          exact lf_throw rfl
theorem s_Main_sound {sc : Nat × (Nat → Int32)} {x1 : Int32} {s : lf_S} {p : (Nat ⊕ Bool) × lf_S} (h : f_Main_sound x1 s = some p) : lf_th sc 4 j_Main_sound [.ref 0, .int x1] s lf_vb p := by
  refine lf_inT (D := 3) (ls := [.ref 0, .int x1]) rfl lf_ztb rfl ?_
  intro d hd cl
  unfold f_Main_sound at h
  refine lf_blk B_Main_sound_0 ?_
  refine lf_aload rfl ?_
  refine lf_iload rfl ?_
  refine lf_callVTu (as := [.int x1]) (rest := []) h rfl rfl lf_a0 rfl (Nat.le_trans (by decide) hd) rfl rfl (by decide +kernel) (fun p h9 => s_Main_needBasket h9) ?_
  intro v1 s2 h
  refine lf_aload rfl ?_
  refine lf_getr (ci := 9) (k := 2) lf_a0 rfl (by decide) rfl ?_
  refine lf_getr (ci := 3) (k := 1) (lf_Holt_0 lf_Holt_at10) rfl (by decide) rfl ?_
  refine lf_iload rfl ?_
  refine lf_aload rfl ?_
  refine lf_getr (ci := 9) (k := 2) lf_a0 rfl (by decide) rfl ?_
  refine lf_getr (ci := 3) (k := 1) (lf_Holt_0 lf_Holt_at10) rfl (by decide) rfl ?_
  refine lf_getr (ci := 0) (k := 1) (lf_Baskets_0 (lf_Holt_6 lf_Holt_at10)) rfl (by decide) rfl ?_
  refine lf_iload rfl ?_
  refine lf_iald h (lf_Baskets_1 (lf_Holt_6 lf_Holt_at10)) ?_
  intro k3 h
  refine lf_callVRi (as := [.int x1, .int (s2.1 ((10 + 6) + 1) k3)]) (rest := []) h rfl rfl (lf_Baskets_0 (lf_Holt_6 lf_Holt_at10)) rfl (Nat.le_trans (by decide) hd) rfl rfl (fun p4 h9 => s_Baskets_looseOf (lf_Holt_6 lf_Holt_at10) h9) ?_
  intro p4 h
  refine lf_if_ne h (fun h => ?_) (fun h => ?_)
  · refine lf_blk B_Main_sound_35 ?_
    refine lf_iconst lf_c0 ?_
    refine lf_end ?_
    refine lf_blk B_Main_sound_36 ?_
    cases h
    exact lf_iret ⟨rfl, rfl, rfl⟩
  · refine lf_iconst lf_c1 ?_
    refine lf_goto ?_
    refine lf_blk B_Main_sound_36 ?_
    cases h
    exact lf_iret ⟨rfl, rfl, rfl⟩
theorem s_Main_needFeet {sc : Nat × (Nat → Int32)} {x0 : Int32} {s : lf_S} {p : (Nat ⊕ Unit) × lf_S} (h : f_Main_needFeet x0 s = some p) : lf_th sc 2 j_Main_needFeet [.int x0] s lf_vu p := by
  refine lf_inT (D := 1) (ls := [.int x0]) rfl (lf_zti (by decide +kernel)) rfl ?_
  intro d hd cl
  unfold f_Main_needFeet at h
  refine lf_blk B_Main_needFeet_0 ?_
  refine lf_iload rfl ?_
  refine lf_iconst lf_c1 ?_
  refine lf_iconst lf_c6 ?_
  refine lf_callSTu (as := [.int x0, .int (1 : Int32), .int (6 : Int32)]) (rest := []) h rfl rfl (Nat.le_trans (by decide) hd) rfl rfl (by decide +kernel) (fun p h9 => s_Main_needIndex h9) ?_
  intro v1 s2 h
  cases h
  exact lf_ret ⟨rfl, rfl, rfl⟩
theorem s_Main_store {sc : Nat × (Nat → Int32)} {x1 : Int32} {s : lf_S} {p : (Nat ⊕ Int32) × lf_S} (h : f_Main_store x1 s = some p) : lf_th sc 3 j_Main_store [.ref 0, .int x1] s lf_vi p := by
  refine lf_inT (D := 2) (ls := [.ref 0, .int x1]) rfl (lf_zti (by decide +kernel)) rfl ?_
  intro d hd cl
  unfold f_Main_store at h
  refine lf_blk B_Main_store_0 ?_
  refine lf_iload rfl ?_
  refine lf_callSTu (as := [.int x1]) (rest := []) h rfl rfl (Nat.le_trans (by decide) hd) rfl rfl (by decide +kernel) (fun p h9 => s_Main_needFeet h9) ?_
  intro v1 s2 h
  refine lf_aload rfl ?_
  refine lf_getr (ci := 9) (k := 2) lf_a0 rfl (by decide) rfl ?_
  refine lf_getr (ci := 3) (k := 5) (lf_Holt_0 lf_Holt_at10) rfl (by decide) rfl ?_
  refine lf_iload rfl ?_
  refine lf_iald h (lf_Holt_23 lf_Holt_at10) ?_
  intro k3 h
  cases h
  exact lf_iret ⟨rfl, rfl, rfl⟩
theorem s_Main_needHand {sc : Nat × (Nat → Int32)} {x1 : Int32} {s : lf_S} {p : (Nat ⊕ Unit) × lf_S} (h : f_Main_needHand x1 s = some p) : lf_th sc 2 j_Main_needHand [.ref 0, .int x1] s lf_vu p := by
  refine lf_inT (D := 1) (ls := [.ref 0, .int x1]) rfl (lf_zti (by decide +kernel)) rfl ?_
  intro d hd cl
  unfold f_Main_needHand at h
  refine lf_blk B_Main_needHand_0 ?_
  refine lf_iload rfl ?_
  refine lf_iconst lf_c0 ?_
  refine lf_aload rfl ?_
  refine lf_getr (ci := 9) (k := 2) lf_a0 rfl (by decide) rfl ?_
  refine lf_getr (ci := 3) (k := 2) (lf_Holt_0 lf_Holt_at10) rfl (by decide) rfl ?_
  refine lf_getf (ci := 2) (k := 0) (lf_Hands_0 (lf_Holt_15 lf_Holt_at10)) rfl (by decide) rfl ?_
  refine lf_iconst lf_c1 ?_
  refine lf_isub ?_
  refine lf_callSTu (as := [.int x1, .int (0 : Int32), .int ((s.1 (10 + 15) 0) - (1 : Int32))]) (rest := []) h rfl rfl (Nat.le_trans (by decide) hd) rfl rfl (by decide +kernel) (fun p h9 => s_Main_needIndex h9) ?_
  intro v1 s2 h
  cases h
  exact lf_ret ⟨rfl, rfl, rfl⟩
theorem s_Main_hand {sc : Nat × (Nat → Int32)} {x1 : Int32} {x2 : Int32} {s : lf_S} {p : (Nat ⊕ Int32) × lf_S} (h : f_Main_hand x1 x2 s = some p) : lf_th sc 3 j_Main_hand [.ref 0, .int x1, .int x2] s lf_vi p := by
  refine lf_inT (D := 2) (ls := [.ref 0, .int x1, .int x2]) rfl (lf_zti (by decide +kernel)) rfl ?_
  intro d hd cl
  unfold f_Main_hand at h
  refine lf_blk B_Main_hand_0 ?_
  refine lf_aload rfl ?_
  refine lf_iload rfl ?_
  refine lf_callVTu (as := [.int x1]) (rest := []) h rfl rfl lf_a0 rfl (Nat.le_trans (by decide) hd) rfl rfl (by decide +kernel) (fun p h9 => s_Main_needHand h9) ?_
  intro v1 s2 h
  refine lf_iload rfl ?_
  refine lf_if_eq h (fun h => ?_) (fun h => ?_)
  · refine lf_blk B_Main_hand_24 ?_
    refine lf_aload rfl ?_
    refine lf_getr (ci := 9) (k := 2) lf_a0 rfl (by decide) rfl ?_
    refine lf_getr (ci := 3) (k := 2) (lf_Holt_0 lf_Holt_at10) rfl (by decide) rfl ?_
    refine lf_getr (ci := 2) (k := 1) (lf_Hands_0 (lf_Holt_15 lf_Holt_at10)) rfl (by decide) rfl ?_
    refine lf_iload rfl ?_
    refine lf_iald h (lf_Hands_1 (lf_Holt_15 lf_Holt_at10)) ?_
    intro k3 h
    refine lf_end ?_
    refine lf_blk B_Main_hand_36 ?_
    cases h
    exact lf_iret ⟨rfl, rfl, rfl⟩
  · refine lf_aload rfl ?_
    refine lf_getr (ci := 9) (k := 2) lf_a0 rfl (by decide) rfl ?_
    refine lf_getr (ci := 3) (k := 2) (lf_Holt_0 lf_Holt_at10) rfl (by decide) rfl ?_
    refine lf_getr (ci := 2) (k := 2) (lf_Hands_0 (lf_Holt_15 lf_Holt_at10)) rfl (by decide) rfl ?_
    refine lf_iload rfl ?_
    refine lf_iald h (lf_Hands_2 (lf_Holt_15 lf_Holt_at10)) ?_
    intro k4 h
    refine lf_goto ?_
    refine lf_blk B_Main_hand_36 ?_
    cases h
    exact lf_iret ⟨rfl, rfl, rfl⟩
theorem s_Main_needOrder {sc : Nat × (Nat → Int32)} {x1 : Int32} {s : lf_S} {p : (Nat ⊕ Unit) × lf_S} (h : f_Main_needOrder x1 s = some p) : lf_th sc 2 j_Main_needOrder [.ref 0, .int x1] s lf_vu p := by
  refine lf_inT (D := 1) (ls := [.ref 0, .int x1]) rfl (lf_zti (by decide +kernel)) rfl ?_
  intro d hd cl
  unfold f_Main_needOrder at h
  refine lf_blk B_Main_needOrder_0 ?_
  refine lf_iload rfl ?_
  refine lf_iconst lf_c0 ?_
  refine lf_aload rfl ?_
  refine lf_getr (ci := 9) (k := 2) lf_a0 rfl (by decide) rfl ?_
  refine lf_getr (ci := 3) (k := 3) (lf_Holt_0 lf_Holt_at10) rfl (by decide) rfl ?_
  refine lf_getf (ci := 6) (k := 0) (lf_Orders_0 (lf_Holt_18 lf_Holt_at10)) rfl (by decide) rfl ?_
  refine lf_iconst lf_c1 ?_
  refine lf_isub ?_
  refine lf_callSTu (as := [.int x1, .int (0 : Int32), .int ((s.1 (10 + 18) 0) - (1 : Int32))]) (rest := []) h rfl rfl (Nat.le_trans (by decide) hd) rfl rfl (by decide +kernel) (fun p h9 => s_Main_needIndex h9) ?_
  intro v1 s2 h
  cases h
  exact lf_ret ⟨rfl, rfl, rfl⟩
theorem s_Main_order {sc : Nat × (Nat → Int32)} {x1 : Int32} {x2 : Int32} {s : lf_S} {p : (Nat ⊕ Int32) × lf_S} (h : f_Main_order x1 x2 s = some p) : lf_th sc 3 j_Main_order [.ref 0, .int x1, .int x2] s lf_vi p := by
  refine lf_inT (D := 2) (ls := [.ref 0, .int x1, .int x2]) rfl (lf_zti (by decide +kernel)) rfl ?_
  intro d hd cl
  unfold f_Main_order at h
  refine lf_blk B_Main_order_0 ?_
  refine lf_aload rfl ?_
  refine lf_iload rfl ?_
  refine lf_callVTu (as := [.int x1]) (rest := []) h rfl rfl lf_a0 rfl (Nat.le_trans (by decide) hd) rfl rfl (by decide +kernel) (fun p h9 => s_Main_needOrder h9) ?_
  intro v1 s2 h
  refine lf_iload rfl ?_
  refine lf_swv h ?_
  intro y3 h
  by_cases c0 : y3 = (0 : Int32)
  · rw [if_pos c0] at h
    subst c0
    refine ⟨_, _, rfl, fun c => absurd c (by decide +kernel), fun _ => ⟨_, rfl, ?_⟩⟩
    refine lf_blk B_Main_order_36 ?_
    refine lf_aload rfl ?_
    refine lf_getr (ci := 9) (k := 2) lf_a0 rfl (by decide) rfl ?_
    refine lf_getr (ci := 3) (k := 3) (lf_Holt_0 lf_Holt_at10) rfl (by decide) rfl ?_
    refine lf_getr (ci := 6) (k := 2) (lf_Orders_0 (lf_Holt_18 lf_Holt_at10)) rfl (by decide) rfl ?_
    refine lf_iload rfl ?_
    refine lf_iald h (lf_Orders_1 (lf_Holt_18 lf_Holt_at10)) ?_
    intro k4 h
    cases h
    exact lf_iret ⟨rfl, rfl, rfl⟩
  rw [if_neg c0] at h
  by_cases c1 : y3 = (1 : Int32)
  · rw [if_pos c1] at h
    subst c1
    refine ⟨_, _, rfl, fun c => absurd c (by decide +kernel), fun _ => ⟨_, rfl, ?_⟩⟩
    refine lf_blk B_Main_order_49 ?_
    refine lf_aload rfl ?_
    refine lf_getr (ci := 9) (k := 2) lf_a0 rfl (by decide) rfl ?_
    refine lf_getr (ci := 3) (k := 3) (lf_Holt_0 lf_Holt_at10) rfl (by decide) rfl ?_
    refine lf_getr (ci := 6) (k := 3) (lf_Orders_0 (lf_Holt_18 lf_Holt_at10)) rfl (by decide) rfl ?_
    refine lf_iload rfl ?_
    refine lf_iald h (lf_Orders_2 (lf_Holt_18 lf_Holt_at10)) ?_
    intro k5 h
    cases h
    exact lf_iret ⟨rfl, rfl, rfl⟩
  rw [if_neg c1] at h
  by_cases c2 : y3 = (2 : Int32)
  · rw [if_pos c2] at h
    subst c2
    refine ⟨_, _, rfl, fun c => absurd c (by decide +kernel), fun _ => ⟨_, rfl, ?_⟩⟩
    refine lf_blk B_Main_order_62 ?_
    refine lf_aload rfl ?_
    refine lf_getr (ci := 9) (k := 2) lf_a0 rfl (by decide) rfl ?_
    refine lf_getr (ci := 3) (k := 3) (lf_Holt_0 lf_Holt_at10) rfl (by decide) rfl ?_
    refine lf_iload rfl ?_
    refine lf_callVRb (as := [.int x1]) (rest := []) h rfl rfl (lf_Orders_0 (lf_Holt_18 lf_Holt_at10)) rfl (Nat.le_trans (by decide) hd) rfl rfl (fun p6 h9 => s_Orders_isOpen (lf_Holt_18 lf_Holt_at10) h9) ?_
    intro p6 h
    refine lf_ifb_eq h (fun h => ?_) (fun h => ?_)
    · refine lf_blk B_Main_order_80 ?_
      refine lf_iconst lf_c0 ?_
      refine lf_end ?_
      refine lf_blk B_Main_order_81 ?_
      cases h
      exact lf_iret ⟨rfl, rfl, rfl⟩
    · refine lf_iconst lf_c1 ?_
      refine lf_goto ?_
      refine lf_blk B_Main_order_81 ?_
      cases h
      exact lf_iret ⟨rfl, rfl, rfl⟩
  rw [if_neg c2] at h
  by_cases c3 : y3 = (3 : Int32)
  · rw [if_pos c3] at h
    subst c3
    refine ⟨_, _, rfl, fun c => absurd c (by decide +kernel), fun _ => ⟨_, rfl, ?_⟩⟩
    refine lf_blk B_Main_order_82 ?_
    refine lf_aload rfl ?_
    refine lf_getr (ci := 9) (k := 2) lf_a0 rfl (by decide) rfl ?_
    refine lf_iload rfl ?_
    refine lf_callVRi (as := [.int x1]) (rest := []) h rfl rfl (lf_Holt_0 lf_Holt_at10) rfl (Nat.le_trans (by decide) hd) rfl rfl (fun p7 h9 => s_Holt_rodsFor lf_Holt_at10 h9) ?_
    intro p7 h
    cases h
    exact lf_iret ⟨rfl, rfl, rfl⟩
  rw [if_neg c3] at h
  refine ⟨_, _, rfl, fun _ => ?_, fun c => ?_⟩
  · refine lf_blk B_Main_order_91 ?_
    cases h
    exact lf_throw rfl
  · exfalso
    have d0 : y3.toInt ≠ 0 := fun e => c0 (Int32.toInt_inj.mp (e.trans (by decide +kernel)))
    have d1 : y3.toInt ≠ 1 := fun e => c1 (Int32.toInt_inj.mp (e.trans (by decide +kernel)))
    have d2 : y3.toInt ≠ 2 := fun e => c2 (Int32.toInt_inj.mp (e.trans (by decide +kernel)))
    have d3 : y3.toInt ≠ 3 := fun e => c3 (Int32.toInt_inj.mp (e.trans (by decide +kernel)))
    omega
theorem s_Main_needWithin {sc : Nat × (Nat → Int32)} {x0 : Int32} {x1 : Int32} {x2 : Int32} {s : lf_S} {p : (Nat ⊕ Unit) × lf_S} (h : f_Main_needWithin x0 x1 x2 s = some p) : lf_th sc 1 j_Main_needWithin [.int x0, .int x1, .int x2] s lf_vu p := by
  refine lf_inT (D := 0) (ls := [.int x0, .int x1, .int x2]) rfl (lf_zti (by decide +kernel)) rfl ?_
  intro d hd cl
  unfold f_Main_needWithin at h
  refine lf_blk B_Main_needWithin_0 ?_
  refine lf_iload rfl ?_
  refine lf_iload rfl ?_
  refine lf_icmp_lt h (fun h => ?_) (fun h => ?_)
  · refine lf_blk B_Main_needWithin_10 ?_
    cases h
    exact lf_throw rfl
  · refine lf_iload rfl ?_
    refine lf_iload rfl ?_
    refine lf_icmp_le h (fun h => ?_) (fun h => ?_)
    · refine lf_blk B_Main_needWithin_21 ?_
      cases h
      exact lf_ret ⟨rfl, rfl, rfl⟩
    · refine lf_end ?_
      refine lf_blk B_Main_needWithin_10 ?_
      cases h
      exact lf_throw rfl
theorem s_Main_years {sc : Nat × (Nat → Int32)} {x1 : Int32} {s : lf_S} {p : (Nat ⊕ Int32) × lf_S} (h : f_Main_years x1 s = some p) : lf_th sc 7 j_Main_years [.ref 0, .int x1] s lf_vi p := by
  refine lf_inT (D := 6) (ls := [.ref 0, .int x1]) rfl (lf_zti (by decide +kernel)) rfl ?_
  intro d hd cl
  unfold f_Main_years at h
  refine lf_blk B_Main_years_0 ?_
  refine lf_iload rfl ?_
  refine lf_iconst lf_c1 ?_
  refine lf_iconst lf_c60 ?_
  refine lf_callSTu (as := [.int x1, .int (1 : Int32), .int (60 : Int32)]) (rest := []) h rfl rfl (Nat.le_trans (by decide) hd) rfl rfl (by decide +kernel) (fun p h9 => s_Main_needWithin h9) ?_
  intro v1 s2 h
  refine lf_aload rfl ?_
  refine lf_callVWu (as := []) (rest := []) h rfl rfl lf_a0 rfl (Nat.le_trans (by decide) hd) rfl rfl (fun p3 h9 => s_Main_remember h9) ?_
  intro p3 h
  refine lf_aload rfl ?_
  refine lf_getr (ci := 9) (k := 2) lf_a0 rfl (by decide) rfl ?_
  refine lf_iload rfl ?_
  refine lf_callVWi (as := [.int x1]) (rest := []) h rfl rfl (lf_Holt_0 lf_Holt_at10) rfl (Nat.le_trans (by decide) hd) rfl rfl (fun p4 h9 => s_Holt_passYears lf_Holt_at10 h9) ?_
  intro p4 h
  cases h
  exact lf_iret ⟨rfl, rfl, rfl⟩
theorem s_Main_needPossible {sc : Nat × (Nat → Int32)} {x0 : Int32} {s : lf_S} {p : (Nat ⊕ Unit) × lf_S} (h : f_Main_needPossible x0 s = some p) : lf_th sc 1 j_Main_needPossible [.int x0] s lf_vu p := by
  refine lf_inT (D := 0) (ls := [.int x0]) rfl (lf_zti (by decide +kernel)) rfl ?_
  intro d hd cl
  unfold f_Main_needPossible at h
  refine lf_blk B_Main_needPossible_0 ?_
  refine lf_iload rfl ?_
  refine lf_if_ne h (fun h => ?_) (fun h => ?_)
  · refine lf_blk B_Main_needPossible_15 ?_
    cases h
    exact lf_ret ⟨rfl, rfl, rfl⟩
  · cases h
    exact lf_throw rfl
theorem s_Main_cut {sc : Nat × (Nat → Int32)} {x1 : Int32} {s : lf_S} {p : (Nat ⊕ Int32) × lf_S} (h : f_Main_cut x1 s = some p) : lf_th sc 7 j_Main_cut [.ref 0, .int x1] s lf_vi p := by
  refine lf_inT (D := 6) (ls := [.ref 0, .int x1, mj_U, mj_U, mj_U]) rfl (lf_zti (by decide +kernel)) rfl ?_
  intro d hd cl
  unfold f_Main_cut at h
  refine lf_blk B_Main_cut_0 ?_
  refine lf_aload rfl ?_
  refine lf_iload rfl ?_
  refine lf_callVTu (as := [.int x1]) (rest := []) h rfl rfl lf_a0 rfl (Nat.le_trans (by decide) hd) rfl rfl (by decide +kernel) (fun p h9 => s_Main_needBed h9) ?_
  intro v1 s2 h
  refine lf_aload rfl ?_
  refine lf_getr (ci := 9) (k := 3) lf_a0 rfl (by decide) rfl ?_
  refine lf_aload rfl ?_
  refine lf_getr (ci := 9) (k := 2) lf_a0 rfl (by decide) rfl ?_
  refine lf_iload rfl ?_
  refine lf_callVWi (as := [.ref 10, .int x1]) (rest := []) h rfl rfl (lf_Law_0 lf_Law_at34) rfl (Nat.le_trans (by decide) hd) rfl rfl (fun p3 h9 => s_Law_reachOf lf_Law_at34 lf_Holt_at10 h9) ?_
  intro p3 h
  refine lf_istore (L := fun y4 => [.ref 0, .int x1, .int y4, mj_U, mj_U]) h rfl rfl (fun _ => rfl) ?_
  intro y4 h
  refine lf_aload rfl ?_
  refine lf_getr (ci := 9) (k := 3) lf_a0 rfl (by decide) rfl ?_
  refine lf_aload rfl ?_
  refine lf_getr (ci := 9) (k := 2) lf_a0 rfl (by decide) rfl ?_
  refine lf_iload rfl ?_
  refine lf_callVWi (as := [.ref 10, .int x1]) (rest := []) h rfl rfl (lf_Law_0 lf_Law_at34) rfl (Nat.le_trans (by decide) hd) rfl rfl (fun p5 h9 => s_Law_costOf lf_Law_at34 lf_Holt_at10 h9) ?_
  intro p5 h
  refine lf_istore (L := fun y6 => [.ref 0, .int x1, .int y4, .int y6, mj_U]) h rfl rfl (fun _ => rfl) ?_
  intro y6 h
  refine lf_iload rfl ?_
  refine lf_if_le h (fun h => ?_) (fun h => ?_)
  · refine lf_blk B_Main_cut_50 ?_
    refine lf_iconst lf_c0 ?_
    refine lf_end ?_
    refine lf_blk B_Main_cut_51 ?_
    refine lf_callSTu (as := [.int (0 : Int32)]) (rest := []) h rfl rfl (Nat.le_trans (by decide) hd) rfl rfl (by decide +kernel) (fun p h9 => s_Main_needPossible h9) ?_
    intro v7 s8 h
    refine lf_aload rfl ?_
    refine lf_getr (ci := 9) (k := 3) lf_a0 rfl (by decide) rfl ?_
    refine lf_aload rfl ?_
    refine lf_getr (ci := 9) (k := 2) lf_a0 rfl (by decide) rfl ?_
    refine lf_iload rfl ?_
    refine lf_callVWi (as := [.ref 10, .int x1]) (rest := []) h rfl rfl (lf_Law_0 lf_Law_at34) rfl (Nat.le_trans (by decide) hd) rfl rfl (fun p9 h9 => s_Law_yieldOf lf_Law_at34 lf_Holt_at10 h9) ?_
    intro p9 h
    refine lf_istore (L := fun y10 => [.ref 0, .int x1, .int y4, .int y6, .int y10]) h rfl rfl (fun _ => rfl) ?_
    intro y10 h
    refine lf_aload rfl ?_
    refine lf_callVWu (as := []) (rest := []) h rfl rfl lf_a0 rfl (Nat.le_trans (by decide) hd) rfl rfl (fun p11 h9 => s_Main_remember h9) ?_
    intro p11 h
    refine lf_aload rfl ?_
    refine lf_getr (ci := 9) (k := 2) lf_a0 rfl (by decide) rfl ?_
    refine lf_dupr ?_
    refine lf_getf (ci := 3) (k := 8) (lf_Holt_0 lf_Holt_at10) rfl (by decide) rfl ?_
    refine lf_iload rfl ?_
    refine lf_isub ?_
    refine lf_putf (ci := 3) (k := 8) h (lf_Holt_0 lf_Holt_at10) rfl (by decide) rfl rfl rfl ?_
    intro s12 h
    refine lf_aload rfl ?_
    refine lf_getr (ci := 9) (k := 2) lf_a0 rfl (by decide) rfl ?_
    refine lf_getr (ci := 3) (k := 0) (lf_Holt_0 lf_Holt_at10) rfl (by decide) rfl ?_
    refine lf_getr (ci := 1) (k := 2) (lf_Beds_0 (lf_Holt_1 lf_Holt_at10)) rfl (by decide) rfl ?_
    refine lf_iload rfl ?_
    refine lf_iconst lf_c0 ?_
    refine lf_iast h (lf_Beds_2 (lf_Holt_1 lf_Holt_at10)) ?_
    intro s14 h
    refine lf_aload rfl ?_
    refine lf_getr (ci := 9) (k := 2) lf_a0 rfl (by decide) rfl ?_
    refine lf_getr (ci := 3) (k := 5) (lf_Holt_0 lf_Holt_at10) rfl (by decide) rfl ?_
    refine lf_iload rfl ?_
    refine lf_aload rfl ?_
    refine lf_getr (ci := 9) (k := 2) lf_a0 rfl (by decide) rfl ?_
    refine lf_getr (ci := 3) (k := 5) (lf_Holt_0 lf_Holt_at10) rfl (by decide) rfl ?_
    refine lf_iload rfl ?_
    refine lf_iald h (lf_Holt_23 lf_Holt_at10) ?_
    intro k15 h
    refine lf_iload rfl ?_
    refine lf_iadd ?_
    refine lf_iconst lf_c9999 ?_
    refine lf_min rfl ?_
    refine lf_iast h (lf_Holt_23 lf_Holt_at10) ?_
    intro s17 h
    refine lf_aload rfl ?_
    refine lf_getr (ci := 9) (k := 2) lf_a0 rfl (by decide) rfl ?_
    refine lf_getr (ci := 3) (k := 4) (lf_Holt_0 lf_Holt_at10) rfl (by decide) rfl ?_
    refine lf_aload rfl ?_
    refine lf_getr (ci := 9) (k := 2) lf_a0 rfl (by decide) rfl ?_
    refine lf_getf (ci := 3) (k := 9) (lf_Holt_0 lf_Holt_at10) rfl (by decide) rfl ?_
    refine lf_iload rfl ?_
    refine lf_iconst lf_c0 ?_
    refine lf_iload rfl ?_
    refine lf_callVWu (as := [.int (s17.1 10 9), .int x1, .int (0 : Int32), .int y10]) (rest := []) h rfl rfl (lf_Log_0 (lf_Holt_21 lf_Holt_at10)) rfl (Nat.le_trans (by decide) hd) rfl rfl (fun p18 h9 => s_Log_add (lf_Holt_21 lf_Holt_at10) h9) ?_
    intro p18 h
    refine lf_iload rfl ?_
    cases h
    exact lf_iret ⟨rfl, rfl, rfl⟩
  · refine lf_iload rfl ?_
    refine lf_aload rfl ?_
    refine lf_getr (ci := 9) (k := 2) lf_a0 rfl (by decide) rfl ?_
    refine lf_getf (ci := 3) (k := 8) (lf_Holt_0 lf_Holt_at10) rfl (by decide) rfl ?_
    refine lf_icmp_gt h (fun h => ?_) (fun h => ?_)
    · refine lf_blk B_Main_cut_50 ?_
      refine lf_iconst lf_c0 ?_
      refine lf_end ?_
      refine lf_blk B_Main_cut_51 ?_
      refine lf_callSTu (as := [.int (0 : Int32)]) (rest := []) h rfl rfl (Nat.le_trans (by decide) hd) rfl rfl (by decide +kernel) (fun p h9 => s_Main_needPossible h9) ?_
      intro v19 s20 h
      refine lf_aload rfl ?_
      refine lf_getr (ci := 9) (k := 3) lf_a0 rfl (by decide) rfl ?_
      refine lf_aload rfl ?_
      refine lf_getr (ci := 9) (k := 2) lf_a0 rfl (by decide) rfl ?_
      refine lf_iload rfl ?_
      refine lf_callVWi (as := [.ref 10, .int x1]) (rest := []) h rfl rfl (lf_Law_0 lf_Law_at34) rfl (Nat.le_trans (by decide) hd) rfl rfl (fun p21 h9 => s_Law_yieldOf lf_Law_at34 lf_Holt_at10 h9) ?_
      intro p21 h
      refine lf_istore (L := fun y22 => [.ref 0, .int x1, .int y4, .int y6, .int y22]) h rfl rfl (fun _ => rfl) ?_
      intro y22 h
      refine lf_aload rfl ?_
      refine lf_callVWu (as := []) (rest := []) h rfl rfl lf_a0 rfl (Nat.le_trans (by decide) hd) rfl rfl (fun p23 h9 => s_Main_remember h9) ?_
      intro p23 h
      refine lf_aload rfl ?_
      refine lf_getr (ci := 9) (k := 2) lf_a0 rfl (by decide) rfl ?_
      refine lf_dupr ?_
      refine lf_getf (ci := 3) (k := 8) (lf_Holt_0 lf_Holt_at10) rfl (by decide) rfl ?_
      refine lf_iload rfl ?_
      refine lf_isub ?_
      refine lf_putf (ci := 3) (k := 8) h (lf_Holt_0 lf_Holt_at10) rfl (by decide) rfl rfl rfl ?_
      intro s24 h
      refine lf_aload rfl ?_
      refine lf_getr (ci := 9) (k := 2) lf_a0 rfl (by decide) rfl ?_
      refine lf_getr (ci := 3) (k := 0) (lf_Holt_0 lf_Holt_at10) rfl (by decide) rfl ?_
      refine lf_getr (ci := 1) (k := 2) (lf_Beds_0 (lf_Holt_1 lf_Holt_at10)) rfl (by decide) rfl ?_
      refine lf_iload rfl ?_
      refine lf_iconst lf_c0 ?_
      refine lf_iast h (lf_Beds_2 (lf_Holt_1 lf_Holt_at10)) ?_
      intro s26 h
      refine lf_aload rfl ?_
      refine lf_getr (ci := 9) (k := 2) lf_a0 rfl (by decide) rfl ?_
      refine lf_getr (ci := 3) (k := 5) (lf_Holt_0 lf_Holt_at10) rfl (by decide) rfl ?_
      refine lf_iload rfl ?_
      refine lf_aload rfl ?_
      refine lf_getr (ci := 9) (k := 2) lf_a0 rfl (by decide) rfl ?_
      refine lf_getr (ci := 3) (k := 5) (lf_Holt_0 lf_Holt_at10) rfl (by decide) rfl ?_
      refine lf_iload rfl ?_
      refine lf_iald h (lf_Holt_23 lf_Holt_at10) ?_
      intro k27 h
      refine lf_iload rfl ?_
      refine lf_iadd ?_
      refine lf_iconst lf_c9999 ?_
      refine lf_min rfl ?_
      refine lf_iast h (lf_Holt_23 lf_Holt_at10) ?_
      intro s29 h
      refine lf_aload rfl ?_
      refine lf_getr (ci := 9) (k := 2) lf_a0 rfl (by decide) rfl ?_
      refine lf_getr (ci := 3) (k := 4) (lf_Holt_0 lf_Holt_at10) rfl (by decide) rfl ?_
      refine lf_aload rfl ?_
      refine lf_getr (ci := 9) (k := 2) lf_a0 rfl (by decide) rfl ?_
      refine lf_getf (ci := 3) (k := 9) (lf_Holt_0 lf_Holt_at10) rfl (by decide) rfl ?_
      refine lf_iload rfl ?_
      refine lf_iconst lf_c0 ?_
      refine lf_iload rfl ?_
      refine lf_callVWu (as := [.int (s29.1 10 9), .int x1, .int (0 : Int32), .int y22]) (rest := []) h rfl rfl (lf_Log_0 (lf_Holt_21 lf_Holt_at10)) rfl (Nat.le_trans (by decide) hd) rfl rfl (fun p30 h9 => s_Log_add (lf_Holt_21 lf_Holt_at10) h9) ?_
      intro p30 h
      refine lf_iload rfl ?_
      cases h
      exact lf_iret ⟨rfl, rfl, rfl⟩
    · refine lf_iconst lf_c1 ?_
      refine lf_goto ?_
      refine lf_blk B_Main_cut_51 ?_
      refine lf_callSTu (as := [.int (1 : Int32)]) (rest := []) h rfl rfl (Nat.le_trans (by decide) hd) rfl rfl (by decide +kernel) (fun p h9 => s_Main_needPossible h9) ?_
      intro v31 s32 h
      refine lf_aload rfl ?_
      refine lf_getr (ci := 9) (k := 3) lf_a0 rfl (by decide) rfl ?_
      refine lf_aload rfl ?_
      refine lf_getr (ci := 9) (k := 2) lf_a0 rfl (by decide) rfl ?_
      refine lf_iload rfl ?_
      refine lf_callVWi (as := [.ref 10, .int x1]) (rest := []) h rfl rfl (lf_Law_0 lf_Law_at34) rfl (Nat.le_trans (by decide) hd) rfl rfl (fun p33 h9 => s_Law_yieldOf lf_Law_at34 lf_Holt_at10 h9) ?_
      intro p33 h
      refine lf_istore (L := fun y34 => [.ref 0, .int x1, .int y4, .int y6, .int y34]) h rfl rfl (fun _ => rfl) ?_
      intro y34 h
      refine lf_aload rfl ?_
      refine lf_callVWu (as := []) (rest := []) h rfl rfl lf_a0 rfl (Nat.le_trans (by decide) hd) rfl rfl (fun p35 h9 => s_Main_remember h9) ?_
      intro p35 h
      refine lf_aload rfl ?_
      refine lf_getr (ci := 9) (k := 2) lf_a0 rfl (by decide) rfl ?_
      refine lf_dupr ?_
      refine lf_getf (ci := 3) (k := 8) (lf_Holt_0 lf_Holt_at10) rfl (by decide) rfl ?_
      refine lf_iload rfl ?_
      refine lf_isub ?_
      refine lf_putf (ci := 3) (k := 8) h (lf_Holt_0 lf_Holt_at10) rfl (by decide) rfl rfl rfl ?_
      intro s36 h
      refine lf_aload rfl ?_
      refine lf_getr (ci := 9) (k := 2) lf_a0 rfl (by decide) rfl ?_
      refine lf_getr (ci := 3) (k := 0) (lf_Holt_0 lf_Holt_at10) rfl (by decide) rfl ?_
      refine lf_getr (ci := 1) (k := 2) (lf_Beds_0 (lf_Holt_1 lf_Holt_at10)) rfl (by decide) rfl ?_
      refine lf_iload rfl ?_
      refine lf_iconst lf_c0 ?_
      refine lf_iast h (lf_Beds_2 (lf_Holt_1 lf_Holt_at10)) ?_
      intro s38 h
      refine lf_aload rfl ?_
      refine lf_getr (ci := 9) (k := 2) lf_a0 rfl (by decide) rfl ?_
      refine lf_getr (ci := 3) (k := 5) (lf_Holt_0 lf_Holt_at10) rfl (by decide) rfl ?_
      refine lf_iload rfl ?_
      refine lf_aload rfl ?_
      refine lf_getr (ci := 9) (k := 2) lf_a0 rfl (by decide) rfl ?_
      refine lf_getr (ci := 3) (k := 5) (lf_Holt_0 lf_Holt_at10) rfl (by decide) rfl ?_
      refine lf_iload rfl ?_
      refine lf_iald h (lf_Holt_23 lf_Holt_at10) ?_
      intro k39 h
      refine lf_iload rfl ?_
      refine lf_iadd ?_
      refine lf_iconst lf_c9999 ?_
      refine lf_min rfl ?_
      refine lf_iast h (lf_Holt_23 lf_Holt_at10) ?_
      intro s41 h
      refine lf_aload rfl ?_
      refine lf_getr (ci := 9) (k := 2) lf_a0 rfl (by decide) rfl ?_
      refine lf_getr (ci := 3) (k := 4) (lf_Holt_0 lf_Holt_at10) rfl (by decide) rfl ?_
      refine lf_aload rfl ?_
      refine lf_getr (ci := 9) (k := 2) lf_a0 rfl (by decide) rfl ?_
      refine lf_getf (ci := 3) (k := 9) (lf_Holt_0 lf_Holt_at10) rfl (by decide) rfl ?_
      refine lf_iload rfl ?_
      refine lf_iconst lf_c0 ?_
      refine lf_iload rfl ?_
      refine lf_callVWu (as := [.int (s41.1 10 9), .int x1, .int (0 : Int32), .int y34]) (rest := []) h rfl rfl (lf_Log_0 (lf_Holt_21 lf_Holt_at10)) rfl (Nat.le_trans (by decide) hd) rfl rfl (fun p42 h9 => s_Log_add (lf_Holt_21 lf_Holt_at10) h9) ?_
      intro p42 h
      refine lf_iload rfl ?_
      cases h
      exact lf_iret ⟨rfl, rfl, rfl⟩
theorem s_Main_buy {sc : Nat × (Nat → Int32)} {x1 : Int32} {x2 : Int32} {s : lf_S} {p : (Nat ⊕ Int32) × lf_S} (h : f_Main_buy x1 x2 s = some p) : lf_th sc 4 j_Main_buy [.ref 0, .int x1, .int x2] s lf_vi p := by
  refine lf_inT (D := 3) (ls := [.ref 0, .int x1, .int x2]) rfl (lf_zti (by decide +kernel)) rfl ?_
  intro d hd cl
  unfold f_Main_buy at h
  refine lf_blk B_Main_buy_0 ?_
  refine lf_iload rfl ?_
  refine lf_callSTu (as := [.int x1]) (rest := []) h rfl rfl (Nat.le_trans (by decide) hd) rfl rfl (by decide +kernel) (fun p h9 => s_Main_needFeet h9) ?_
  intro v1 s2 h
  refine lf_iload rfl ?_
  refine lf_iconst lf_c1 ?_
  refine lf_iconst lf_c999 ?_
  refine lf_callSTu (as := [.int x2, .int (1 : Int32), .int (999 : Int32)]) (rest := []) h rfl rfl (Nat.le_trans (by decide) hd) rfl rfl (by decide +kernel) (fun p h9 => s_Main_needWithin h9) ?_
  intro v3 s4 h
  refine lf_iload rfl ?_
  refine lf_iload rfl ?_
  refine lf_imul ?_
  refine lf_aload rfl ?_
  refine lf_getr (ci := 9) (k := 2) lf_a0 rfl (by decide) rfl ?_
  refine lf_getf (ci := 3) (k := 8) (lf_Holt_0 lf_Holt_at10) rfl (by decide) rfl ?_
  refine lf_icmp_gt h (fun h => ?_) (fun h => ?_)
  · refine lf_blk B_Main_buy_46 ?_
    refine lf_iconst lf_c0 ?_
    refine lf_end ?_
    refine lf_blk B_Main_buy_47 ?_
    refine lf_callSTu (as := [.int (0 : Int32)]) (rest := []) h rfl rfl (Nat.le_trans (by decide) hd) rfl rfl (by decide +kernel) (fun p h9 => s_Main_needPossible h9) ?_
    intro v5 s6 h
    refine lf_aload rfl ?_
    refine lf_callVWu (as := []) (rest := []) h rfl rfl lf_a0 rfl (Nat.le_trans (by decide) hd) rfl rfl (fun p7 h9 => s_Main_remember h9) ?_
    intro p7 h
    refine lf_aload rfl ?_
    refine lf_getr (ci := 9) (k := 2) lf_a0 rfl (by decide) rfl ?_
    refine lf_dupr ?_
    refine lf_getf (ci := 3) (k := 8) (lf_Holt_0 lf_Holt_at10) rfl (by decide) rfl ?_
    refine lf_iload rfl ?_
    refine lf_iload rfl ?_
    refine lf_imul ?_
    refine lf_isub ?_
    refine lf_putf (ci := 3) (k := 8) h (lf_Holt_0 lf_Holt_at10) rfl (by decide) rfl rfl rfl ?_
    intro s8 h
    refine lf_aload rfl ?_
    refine lf_getr (ci := 9) (k := 2) lf_a0 rfl (by decide) rfl ?_
    refine lf_getr (ci := 3) (k := 5) (lf_Holt_0 lf_Holt_at10) rfl (by decide) rfl ?_
    refine lf_iload rfl ?_
    refine lf_dup2 ?_
    refine lf_iald h (lf_Holt_23 lf_Holt_at10) ?_
    intro k9 h
    refine lf_iload rfl ?_
    refine lf_iadd ?_
    refine lf_iast h (lf_Holt_23 lf_Holt_at10) ?_
    intro s11 h
    refine lf_aload rfl ?_
    refine lf_getr (ci := 9) (k := 2) lf_a0 rfl (by decide) rfl ?_
    refine lf_getf (ci := 3) (k := 8) (lf_Holt_0 lf_Holt_at10) rfl (by decide) rfl ?_
    cases h
    exact lf_iret ⟨rfl, rfl, rfl⟩
  · refine lf_aload rfl ?_
    refine lf_getr (ci := 9) (k := 2) lf_a0 rfl (by decide) rfl ?_
    refine lf_getr (ci := 3) (k := 5) (lf_Holt_0 lf_Holt_at10) rfl (by decide) rfl ?_
    refine lf_iload rfl ?_
    refine lf_iald h (lf_Holt_23 lf_Holt_at10) ?_
    intro k12 h
    refine lf_iload rfl ?_
    refine lf_iadd ?_
    refine lf_iconst lf_c9999 ?_
    refine lf_icmp_gt h (fun h => ?_) (fun h => ?_)
    · refine lf_blk B_Main_buy_46 ?_
      refine lf_iconst lf_c0 ?_
      refine lf_end ?_
      refine lf_blk B_Main_buy_47 ?_
      refine lf_callSTu (as := [.int (0 : Int32)]) (rest := []) h rfl rfl (Nat.le_trans (by decide) hd) rfl rfl (by decide +kernel) (fun p h9 => s_Main_needPossible h9) ?_
      intro v13 s14 h
      refine lf_aload rfl ?_
      refine lf_callVWu (as := []) (rest := []) h rfl rfl lf_a0 rfl (Nat.le_trans (by decide) hd) rfl rfl (fun p15 h9 => s_Main_remember h9) ?_
      intro p15 h
      refine lf_aload rfl ?_
      refine lf_getr (ci := 9) (k := 2) lf_a0 rfl (by decide) rfl ?_
      refine lf_dupr ?_
      refine lf_getf (ci := 3) (k := 8) (lf_Holt_0 lf_Holt_at10) rfl (by decide) rfl ?_
      refine lf_iload rfl ?_
      refine lf_iload rfl ?_
      refine lf_imul ?_
      refine lf_isub ?_
      refine lf_putf (ci := 3) (k := 8) h (lf_Holt_0 lf_Holt_at10) rfl (by decide) rfl rfl rfl ?_
      intro s16 h
      refine lf_aload rfl ?_
      refine lf_getr (ci := 9) (k := 2) lf_a0 rfl (by decide) rfl ?_
      refine lf_getr (ci := 3) (k := 5) (lf_Holt_0 lf_Holt_at10) rfl (by decide) rfl ?_
      refine lf_iload rfl ?_
      refine lf_dup2 ?_
      refine lf_iald h (lf_Holt_23 lf_Holt_at10) ?_
      intro k17 h
      refine lf_iload rfl ?_
      refine lf_iadd ?_
      refine lf_iast h (lf_Holt_23 lf_Holt_at10) ?_
      intro s19 h
      refine lf_aload rfl ?_
      refine lf_getr (ci := 9) (k := 2) lf_a0 rfl (by decide) rfl ?_
      refine lf_getf (ci := 3) (k := 8) (lf_Holt_0 lf_Holt_at10) rfl (by decide) rfl ?_
      cases h
      exact lf_iret ⟨rfl, rfl, rfl⟩
    · refine lf_iconst lf_c1 ?_
      refine lf_goto ?_
      refine lf_blk B_Main_buy_47 ?_
      refine lf_callSTu (as := [.int (1 : Int32)]) (rest := []) h rfl rfl (Nat.le_trans (by decide) hd) rfl rfl (by decide +kernel) (fun p h9 => s_Main_needPossible h9) ?_
      intro v20 s21 h
      refine lf_aload rfl ?_
      refine lf_callVWu (as := []) (rest := []) h rfl rfl lf_a0 rfl (Nat.le_trans (by decide) hd) rfl rfl (fun p22 h9 => s_Main_remember h9) ?_
      intro p22 h
      refine lf_aload rfl ?_
      refine lf_getr (ci := 9) (k := 2) lf_a0 rfl (by decide) rfl ?_
      refine lf_dupr ?_
      refine lf_getf (ci := 3) (k := 8) (lf_Holt_0 lf_Holt_at10) rfl (by decide) rfl ?_
      refine lf_iload rfl ?_
      refine lf_iload rfl ?_
      refine lf_imul ?_
      refine lf_isub ?_
      refine lf_putf (ci := 3) (k := 8) h (lf_Holt_0 lf_Holt_at10) rfl (by decide) rfl rfl rfl ?_
      intro s23 h
      refine lf_aload rfl ?_
      refine lf_getr (ci := 9) (k := 2) lf_a0 rfl (by decide) rfl ?_
      refine lf_getr (ci := 3) (k := 5) (lf_Holt_0 lf_Holt_at10) rfl (by decide) rfl ?_
      refine lf_iload rfl ?_
      refine lf_dup2 ?_
      refine lf_iald h (lf_Holt_23 lf_Holt_at10) ?_
      intro k24 h
      refine lf_iload rfl ?_
      refine lf_iadd ?_
      refine lf_iast h (lf_Holt_23 lf_Holt_at10) ?_
      intro s26 h
      refine lf_aload rfl ?_
      refine lf_getr (ci := 9) (k := 2) lf_a0 rfl (by decide) rfl ?_
      refine lf_getf (ci := 3) (k := 8) (lf_Holt_0 lf_Holt_at10) rfl (by decide) rfl ?_
      cases h
      exact lf_iret ⟨rfl, rfl, rfl⟩
theorem s_Main_sell {sc : Nat × (Nat → Int32)} {x1 : Int32} {x2 : Int32} {s : lf_S} {p : (Nat ⊕ Int32) × lf_S} (h : f_Main_sell x1 x2 s = some p) : lf_th sc 4 j_Main_sell [.ref 0, .int x1, .int x2] s lf_vi p := by
  refine lf_inT (D := 3) (ls := [.ref 0, .int x1, .int x2]) rfl (lf_zti (by decide +kernel)) rfl ?_
  intro d hd cl
  unfold f_Main_sell at h
  refine lf_blk B_Main_sell_0 ?_
  refine lf_iload rfl ?_
  refine lf_callSTu (as := [.int x1]) (rest := []) h rfl rfl (Nat.le_trans (by decide) hd) rfl rfl (by decide +kernel) (fun p h9 => s_Main_needFeet h9) ?_
  intro v1 s2 h
  refine lf_iload rfl ?_
  refine lf_iconst lf_c1 ?_
  refine lf_iconst lf_c999 ?_
  refine lf_callSTu (as := [.int x2, .int (1 : Int32), .int (999 : Int32)]) (rest := []) h rfl rfl (Nat.le_trans (by decide) hd) rfl rfl (by decide +kernel) (fun p h9 => s_Main_needWithin h9) ?_
  intro v3 s4 h
  refine lf_iload rfl ?_
  refine lf_aload rfl ?_
  refine lf_getr (ci := 9) (k := 2) lf_a0 rfl (by decide) rfl ?_
  refine lf_getr (ci := 3) (k := 5) (lf_Holt_0 lf_Holt_at10) rfl (by decide) rfl ?_
  refine lf_iload rfl ?_
  refine lf_iald h (lf_Holt_23 lf_Holt_at10) ?_
  intro k5 h
  refine lf_icmp_gt h (fun h => ?_) (fun h => ?_)
  · refine lf_blk B_Main_sell_29 ?_
    refine lf_iconst lf_c0 ?_
    refine lf_end ?_
    refine lf_blk B_Main_sell_30 ?_
    refine lf_callSTu (as := [.int (0 : Int32)]) (rest := []) h rfl rfl (Nat.le_trans (by decide) hd) rfl rfl (by decide +kernel) (fun p h9 => s_Main_needPossible h9) ?_
    intro v6 s7 h
    refine lf_aload rfl ?_
    refine lf_callVWu (as := []) (rest := []) h rfl rfl lf_a0 rfl (Nat.le_trans (by decide) hd) rfl rfl (fun p8 h9 => s_Main_remember h9) ?_
    intro p8 h
    refine lf_aload rfl ?_
    refine lf_getr (ci := 9) (k := 2) lf_a0 rfl (by decide) rfl ?_
    refine lf_getr (ci := 3) (k := 5) (lf_Holt_0 lf_Holt_at10) rfl (by decide) rfl ?_
    refine lf_iload rfl ?_
    refine lf_dup2 ?_
    refine lf_iald h (lf_Holt_23 lf_Holt_at10) ?_
    intro k9 h
    refine lf_iload rfl ?_
    refine lf_isub ?_
    refine lf_iast h (lf_Holt_23 lf_Holt_at10) ?_
    intro s11 h
    refine lf_aload rfl ?_
    refine lf_getr (ci := 9) (k := 2) lf_a0 rfl (by decide) rfl ?_
    refine lf_iload rfl ?_
    refine lf_iload rfl ?_
    refine lf_imul ?_
    refine lf_iconst lf_c2 ?_
    refine lf_idiv (by decide) ?_
    refine lf_callVWu (as := [.int ((x1 * x2) / (2 : Int32))]) (rest := []) h rfl rfl (lf_Holt_0 lf_Holt_at10) rfl (Nat.le_trans (by decide) hd) rfl rfl (fun p12 h9 => s_Holt_earn lf_Holt_at10 h9) ?_
    intro p12 h
    refine lf_aload rfl ?_
    refine lf_getr (ci := 9) (k := 2) lf_a0 rfl (by decide) rfl ?_
    refine lf_getf (ci := 3) (k := 8) (lf_Holt_0 lf_Holt_at10) rfl (by decide) rfl ?_
    cases h
    exact lf_iret ⟨rfl, rfl, rfl⟩
  · refine lf_iconst lf_c1 ?_
    refine lf_goto ?_
    refine lf_blk B_Main_sell_30 ?_
    refine lf_callSTu (as := [.int (1 : Int32)]) (rest := []) h rfl rfl (Nat.le_trans (by decide) hd) rfl rfl (by decide +kernel) (fun p h9 => s_Main_needPossible h9) ?_
    intro v13 s14 h
    refine lf_aload rfl ?_
    refine lf_callVWu (as := []) (rest := []) h rfl rfl lf_a0 rfl (Nat.le_trans (by decide) hd) rfl rfl (fun p15 h9 => s_Main_remember h9) ?_
    intro p15 h
    refine lf_aload rfl ?_
    refine lf_getr (ci := 9) (k := 2) lf_a0 rfl (by decide) rfl ?_
    refine lf_getr (ci := 3) (k := 5) (lf_Holt_0 lf_Holt_at10) rfl (by decide) rfl ?_
    refine lf_iload rfl ?_
    refine lf_dup2 ?_
    refine lf_iald h (lf_Holt_23 lf_Holt_at10) ?_
    intro k16 h
    refine lf_iload rfl ?_
    refine lf_isub ?_
    refine lf_iast h (lf_Holt_23 lf_Holt_at10) ?_
    intro s18 h
    refine lf_aload rfl ?_
    refine lf_getr (ci := 9) (k := 2) lf_a0 rfl (by decide) rfl ?_
    refine lf_iload rfl ?_
    refine lf_iload rfl ?_
    refine lf_imul ?_
    refine lf_iconst lf_c2 ?_
    refine lf_idiv (by decide) ?_
    refine lf_callVWu (as := [.int ((x1 * x2) / (2 : Int32))]) (rest := []) h rfl rfl (lf_Holt_0 lf_Holt_at10) rfl (Nat.le_trans (by decide) hd) rfl rfl (fun p19 h9 => s_Holt_earn lf_Holt_at10 h9) ?_
    intro p19 h
    refine lf_aload rfl ?_
    refine lf_getr (ci := 9) (k := 2) lf_a0 rfl (by decide) rfl ?_
    refine lf_getf (ci := 3) (k := 8) (lf_Holt_0 lf_Holt_at10) rfl (by decide) rfl ?_
    cases h
    exact lf_iret ⟨rfl, rfl, rfl⟩
theorem s_Main_take {sc : Nat × (Nat → Int32)} {x1 : Int32} {x2 : Int32} {s : lf_S} {p : (Nat ⊕ Int32) × lf_S} (h : f_Main_take x1 x2 s = some p) : lf_th sc 4 j_Main_take [.ref 0, .int x1, .int x2] s lf_vi p := by
  refine lf_inT (D := 3) (ls := [.ref 0, .int x1, .int x2]) rfl (lf_zti (by decide +kernel)) rfl ?_
  intro d hd cl
  unfold f_Main_take at h
  refine lf_blk B_Main_take_0 ?_
  refine lf_aload rfl ?_
  refine lf_iload rfl ?_
  refine lf_callVTu (as := [.int x1]) (rest := []) h rfl rfl lf_a0 rfl (Nat.le_trans (by decide) hd) rfl rfl (by decide +kernel) (fun p h9 => s_Main_needBasket h9) ?_
  intro v1 s2 h
  refine lf_iload rfl ?_
  refine lf_iconst lf_c1 ?_
  refine lf_iconst lf_c9 ?_
  refine lf_callSTu (as := [.int x2, .int (1 : Int32), .int (9 : Int32)]) (rest := []) h rfl rfl (Nat.le_trans (by decide) hd) rfl rfl (by decide +kernel) (fun p h9 => s_Main_needWithin h9) ?_
  intro v3 s4 h
  refine lf_aload rfl ?_
  refine lf_getr (ci := 9) (k := 2) lf_a0 rfl (by decide) rfl ?_
  refine lf_getr (ci := 3) (k := 3) (lf_Holt_0 lf_Holt_at10) rfl (by decide) rfl ?_
  refine lf_getf (ci := 6) (k := 0) (lf_Orders_0 (lf_Holt_18 lf_Holt_at10)) rfl (by decide) rfl ?_
  refine lf_iconst lf_c6 ?_
  refine lf_icmp_ge h (fun h => ?_) (fun h => ?_)
  · refine lf_blk B_Main_take_31 ?_
    refine lf_iconst lf_c0 ?_
    refine lf_end ?_
    refine lf_blk B_Main_take_32 ?_
    refine lf_callSTu (as := [.int (0 : Int32)]) (rest := []) h rfl rfl (Nat.le_trans (by decide) hd) rfl rfl (by decide +kernel) (fun p h9 => s_Main_needPossible h9) ?_
    intro v5 s6 h
    refine lf_aload rfl ?_
    refine lf_callVWu (as := []) (rest := []) h rfl rfl lf_a0 rfl (Nat.le_trans (by decide) hd) rfl rfl (fun p7 h9 => s_Main_remember h9) ?_
    intro p7 h
    refine lf_aload rfl ?_
    refine lf_getr (ci := 9) (k := 2) lf_a0 rfl (by decide) rfl ?_
    refine lf_getr (ci := 3) (k := 3) (lf_Holt_0 lf_Holt_at10) rfl (by decide) rfl ?_
    refine lf_iload rfl ?_
    refine lf_iload rfl ?_
    refine lf_callVWu (as := [.int x1, .int x2]) (rest := []) h rfl rfl (lf_Orders_0 (lf_Holt_18 lf_Holt_at10)) rfl (Nat.le_trans (by decide) hd) rfl rfl (fun p8 h9 => s_Orders_add (lf_Holt_18 lf_Holt_at10) h9) ?_
    intro p8 h
    refine lf_aload rfl ?_
    refine lf_getr (ci := 9) (k := 2) lf_a0 rfl (by decide) rfl ?_
    refine lf_getr (ci := 3) (k := 3) (lf_Holt_0 lf_Holt_at10) rfl (by decide) rfl ?_
    refine lf_getf (ci := 6) (k := 0) (lf_Orders_0 (lf_Holt_18 lf_Holt_at10)) rfl (by decide) rfl ?_
    refine lf_iconst lf_c1 ?_
    refine lf_isub ?_
    cases h
    exact lf_iret ⟨rfl, rfl, rfl⟩
  · refine lf_iconst lf_c1 ?_
    refine lf_goto ?_
    refine lf_blk B_Main_take_32 ?_
    refine lf_callSTu (as := [.int (1 : Int32)]) (rest := []) h rfl rfl (Nat.le_trans (by decide) hd) rfl rfl (by decide +kernel) (fun p h9 => s_Main_needPossible h9) ?_
    intro v9 s10 h
    refine lf_aload rfl ?_
    refine lf_callVWu (as := []) (rest := []) h rfl rfl lf_a0 rfl (Nat.le_trans (by decide) hd) rfl rfl (fun p11 h9 => s_Main_remember h9) ?_
    intro p11 h
    refine lf_aload rfl ?_
    refine lf_getr (ci := 9) (k := 2) lf_a0 rfl (by decide) rfl ?_
    refine lf_getr (ci := 3) (k := 3) (lf_Holt_0 lf_Holt_at10) rfl (by decide) rfl ?_
    refine lf_iload rfl ?_
    refine lf_iload rfl ?_
    refine lf_callVWu (as := [.int x1, .int x2]) (rest := []) h rfl rfl (lf_Orders_0 (lf_Holt_18 lf_Holt_at10)) rfl (Nat.le_trans (by decide) hd) rfl rfl (fun p12 h9 => s_Orders_add (lf_Holt_18 lf_Holt_at10) h9) ?_
    intro p12 h
    refine lf_aload rfl ?_
    refine lf_getr (ci := 9) (k := 2) lf_a0 rfl (by decide) rfl ?_
    refine lf_getr (ci := 3) (k := 3) (lf_Holt_0 lf_Holt_at10) rfl (by decide) rfl ?_
    refine lf_getf (ci := 6) (k := 0) (lf_Orders_0 (lf_Holt_18 lf_Holt_at10)) rfl (by decide) rfl ?_
    refine lf_iconst lf_c1 ?_
    refine lf_isub ?_
    cases h
    exact lf_iret ⟨rfl, rfl, rfl⟩
theorem s_Main_drop {sc : Nat × (Nat → Int32)} {x1 : Int32} {s : lf_S} {p : (Nat ⊕ Unit) × lf_S} (h : f_Main_drop x1 s = some p) : lf_th sc 4 j_Main_drop [.ref 0, .int x1] s lf_vu p := by
  refine lf_inT (D := 3) (ls := [.ref 0, .int x1]) rfl (lf_zti (by decide +kernel)) rfl ?_
  intro d hd cl
  unfold f_Main_drop at h
  refine lf_blk B_Main_drop_0 ?_
  refine lf_aload rfl ?_
  refine lf_iload rfl ?_
  refine lf_callVTu (as := [.int x1]) (rest := []) h rfl rfl lf_a0 rfl (Nat.le_trans (by decide) hd) rfl rfl (by decide +kernel) (fun p h9 => s_Main_needOrder h9) ?_
  intro v1 s2 h
  refine lf_aload rfl ?_
  refine lf_getr (ci := 9) (k := 2) lf_a0 rfl (by decide) rfl ?_
  refine lf_getr (ci := 3) (k := 3) (lf_Holt_0 lf_Holt_at10) rfl (by decide) rfl ?_
  refine lf_iload rfl ?_
  refine lf_callVRb (as := [.int x1]) (rest := []) h rfl rfl (lf_Orders_0 (lf_Holt_18 lf_Holt_at10)) rfl (Nat.le_trans (by decide) hd) rfl rfl (fun p3 h9 => s_Orders_isOpen (lf_Holt_18 lf_Holt_at10) h9) ?_
  intro p3 h
  refine lf_callSTu (as := [.int (lf_i p3)]) (rest := []) h rfl rfl (Nat.le_trans (by decide) hd) rfl rfl (by decide +kernel) (fun p h9 => s_Main_needPossible h9) ?_
  intro v4 s5 h
  refine lf_aload rfl ?_
  refine lf_callVWu (as := []) (rest := []) h rfl rfl lf_a0 rfl (Nat.le_trans (by decide) hd) rfl rfl (fun p6 h9 => s_Main_remember h9) ?_
  intro p6 h
  refine lf_aload rfl ?_
  refine lf_getr (ci := 9) (k := 2) lf_a0 rfl (by decide) rfl ?_
  refine lf_getr (ci := 3) (k := 3) (lf_Holt_0 lf_Holt_at10) rfl (by decide) rfl ?_
  refine lf_iload rfl ?_
  refine lf_callVWu (as := [.int x1]) (rest := []) h rfl rfl (lf_Orders_0 (lf_Holt_18 lf_Holt_at10)) rfl (Nat.le_trans (by decide) hd) rfl rfl (fun p7 h9 => s_Orders_shut (lf_Holt_18 lf_Holt_at10) h9) ?_
  intro p7 h
  cases h
  exact lf_ret ⟨rfl, rfl, rfl⟩
theorem s_Main_drain {sc : Nat × (Nat → Int32)} {x1 : Int32} {x2 : Int32} {s : lf_S} {p : (Nat ⊕ Int32) × lf_S} (h : f_Main_drain x1 x2 s = some p) : lf_th sc 4 j_Main_drain [.ref 0, .int x1, .int x2] s lf_vi p := by
  refine lf_inT (D := 3) (ls := [.ref 0, .int x1, .int x2, mj_U]) rfl (lf_zti (by decide +kernel)) rfl ?_
  intro d hd cl
  unfold f_Main_drain at h
  refine lf_blk B_Main_drain_0 ?_
  refine lf_aload rfl ?_
  refine lf_iload rfl ?_
  refine lf_callVTu (as := [.int x1]) (rest := []) h rfl rfl lf_a0 rfl (Nat.le_trans (by decide) hd) rfl rfl (by decide +kernel) (fun p h9 => s_Main_needBed h9) ?_
  intro v1 s2 h
  refine lf_iload rfl ?_
  refine lf_iconst lf_c0 ?_
  refine lf_iconst lf_c9 ?_
  refine lf_callSTu (as := [.int x2, .int (0 : Int32), .int (9 : Int32)]) (rest := []) h rfl rfl (Nat.le_trans (by decide) hd) rfl rfl (by decide +kernel) (fun p h9 => s_Main_needWithin h9) ?_
  intro v3 s4 h
  refine lf_aload rfl ?_
  refine lf_callVWu (as := []) (rest := []) h rfl rfl lf_a0 rfl (Nat.le_trans (by decide) hd) rfl rfl (fun p5 h9 => s_Main_remember h9) ?_
  intro p5 h
  refine lf_aload rfl ?_
  refine lf_getr (ci := 9) (k := 2) lf_a0 rfl (by decide) rfl ?_
  refine lf_getr (ci := 3) (k := 0) (lf_Holt_0 lf_Holt_at10) rfl (by decide) rfl ?_
  refine lf_getr (ci := 1) (k := 4) (lf_Beds_0 (lf_Holt_1 lf_Holt_at10)) rfl (by decide) rfl ?_
  refine lf_iload rfl ?_
  refine lf_iald h (lf_Beds_4 (lf_Holt_1 lf_Holt_at10)) ?_
  intro k6 h
  refine lf_istore (L := fun y7 => [.ref 0, .int x1, .int x2, .int y7]) h rfl rfl (fun _ => rfl) ?_
  intro y7 h
  refine lf_aload rfl ?_
  refine lf_getr (ci := 9) (k := 2) lf_a0 rfl (by decide) rfl ?_
  refine lf_getr (ci := 3) (k := 0) (lf_Holt_0 lf_Holt_at10) rfl (by decide) rfl ?_
  refine lf_getr (ci := 1) (k := 4) (lf_Beds_0 (lf_Holt_1 lf_Holt_at10)) rfl (by decide) rfl ?_
  refine lf_iload rfl ?_
  refine lf_iload rfl ?_
  refine lf_iast h (lf_Beds_4 (lf_Holt_1 lf_Holt_at10)) ?_
  intro s9 h
  refine lf_iload rfl ?_
  cases h
  exact lf_iret ⟨rfl, rfl, rfl⟩
theorem s_Main_hire {sc : Nat × (Nat → Int32)} {x1 : Int32} {x2 : Int32} {s : lf_S} {p : (Nat ⊕ Int32) × lf_S} (h : f_Main_hire x1 x2 s = some p) : lf_th sc 4 j_Main_hire [.ref 0, .int x1, .int x2] s lf_vi p := by
  refine lf_inT (D := 3) (ls := [.ref 0, .int x1, .int x2]) rfl (lf_zti (by decide +kernel)) rfl ?_
  intro d hd cl
  unfold f_Main_hire at h
  refine lf_blk B_Main_hire_0 ?_
  refine lf_iload rfl ?_
  refine lf_iconst lf_c1 ?_
  refine lf_iconst lf_c9 ?_
  refine lf_callSTu (as := [.int x1, .int (1 : Int32), .int (9 : Int32)]) (rest := []) h rfl rfl (Nat.le_trans (by decide) hd) rfl rfl (by decide +kernel) (fun p h9 => s_Main_needWithin h9) ?_
  intro v1 s2 h
  refine lf_iload rfl ?_
  refine lf_iconst lf_c0 ?_
  refine lf_iconst lf_c99 ?_
  refine lf_callSTu (as := [.int x2, .int (0 : Int32), .int (99 : Int32)]) (rest := []) h rfl rfl (Nat.le_trans (by decide) hd) rfl rfl (by decide +kernel) (fun p h9 => s_Main_needWithin h9) ?_
  intro v3 s4 h
  refine lf_aload rfl ?_
  refine lf_getr (ci := 9) (k := 2) lf_a0 rfl (by decide) rfl ?_
  refine lf_getr (ci := 3) (k := 2) (lf_Holt_0 lf_Holt_at10) rfl (by decide) rfl ?_
  refine lf_getf (ci := 2) (k := 0) (lf_Hands_0 (lf_Holt_15 lf_Holt_at10)) rfl (by decide) rfl ?_
  refine lf_iconst lf_c5 ?_
  refine lf_icmp_ge h (fun h => ?_) (fun h => ?_)
  · refine lf_blk B_Main_hire_32 ?_
    refine lf_iconst lf_c0 ?_
    refine lf_end ?_
    refine lf_blk B_Main_hire_33 ?_
    refine lf_callSTu (as := [.int (0 : Int32)]) (rest := []) h rfl rfl (Nat.le_trans (by decide) hd) rfl rfl (by decide +kernel) (fun p h9 => s_Main_needPossible h9) ?_
    intro v5 s6 h
    refine lf_aload rfl ?_
    refine lf_callVWu (as := []) (rest := []) h rfl rfl lf_a0 rfl (Nat.le_trans (by decide) hd) rfl rfl (fun p7 h9 => s_Main_remember h9) ?_
    intro p7 h
    refine lf_aload rfl ?_
    refine lf_getr (ci := 9) (k := 2) lf_a0 rfl (by decide) rfl ?_
    refine lf_getr (ci := 3) (k := 2) (lf_Holt_0 lf_Holt_at10) rfl (by decide) rfl ?_
    refine lf_iload rfl ?_
    refine lf_iload rfl ?_
    refine lf_callVWu (as := [.int x1, .int x2]) (rest := []) h rfl rfl (lf_Hands_0 (lf_Holt_15 lf_Holt_at10)) rfl (Nat.le_trans (by decide) hd) rfl rfl (fun p8 h9 => s_Hands_add (lf_Holt_15 lf_Holt_at10) h9) ?_
    intro p8 h
    refine lf_aload rfl ?_
    refine lf_getr (ci := 9) (k := 2) lf_a0 rfl (by decide) rfl ?_
    refine lf_getr (ci := 3) (k := 2) (lf_Holt_0 lf_Holt_at10) rfl (by decide) rfl ?_
    refine lf_getf (ci := 2) (k := 0) (lf_Hands_0 (lf_Holt_15 lf_Holt_at10)) rfl (by decide) rfl ?_
    refine lf_iconst lf_c1 ?_
    refine lf_isub ?_
    cases h
    exact lf_iret ⟨rfl, rfl, rfl⟩
  · refine lf_iconst lf_c1 ?_
    refine lf_goto ?_
    refine lf_blk B_Main_hire_33 ?_
    refine lf_callSTu (as := [.int (1 : Int32)]) (rest := []) h rfl rfl (Nat.le_trans (by decide) hd) rfl rfl (by decide +kernel) (fun p h9 => s_Main_needPossible h9) ?_
    intro v9 s10 h
    refine lf_aload rfl ?_
    refine lf_callVWu (as := []) (rest := []) h rfl rfl lf_a0 rfl (Nat.le_trans (by decide) hd) rfl rfl (fun p11 h9 => s_Main_remember h9) ?_
    intro p11 h
    refine lf_aload rfl ?_
    refine lf_getr (ci := 9) (k := 2) lf_a0 rfl (by decide) rfl ?_
    refine lf_getr (ci := 3) (k := 2) (lf_Holt_0 lf_Holt_at10) rfl (by decide) rfl ?_
    refine lf_iload rfl ?_
    refine lf_iload rfl ?_
    refine lf_callVWu (as := [.int x1, .int x2]) (rest := []) h rfl rfl (lf_Hands_0 (lf_Holt_15 lf_Holt_at10)) rfl (Nat.le_trans (by decide) hd) rfl rfl (fun p12 h9 => s_Hands_add (lf_Holt_15 lf_Holt_at10) h9) ?_
    intro p12 h
    refine lf_aload rfl ?_
    refine lf_getr (ci := 9) (k := 2) lf_a0 rfl (by decide) rfl ?_
    refine lf_getr (ci := 3) (k := 2) (lf_Holt_0 lf_Holt_at10) rfl (by decide) rfl ?_
    refine lf_getf (ci := 2) (k := 0) (lf_Hands_0 (lf_Holt_15 lf_Holt_at10)) rfl (by decide) rfl ?_
    refine lf_iconst lf_c1 ?_
    refine lf_isub ?_
    cases h
    exact lf_iret ⟨rfl, rfl, rfl⟩
theorem s_Main_teach {sc : Nat × (Nat → Int32)} {x1 : Int32} {s : lf_S} {p : (Nat ⊕ Int32) × lf_S} (h : f_Main_teach x1 s = some p) : lf_th sc 4 j_Main_teach [.ref 0, .int x1] s lf_vi p := by
  refine lf_inT (D := 3) (ls := [.ref 0, .int x1]) rfl (lf_zti (by decide +kernel)) rfl ?_
  intro d hd cl
  unfold f_Main_teach at h
  refine lf_blk B_Main_teach_0 ?_
  refine lf_aload rfl ?_
  refine lf_iload rfl ?_
  refine lf_callVTu (as := [.int x1]) (rest := []) h rfl rfl lf_a0 rfl (Nat.le_trans (by decide) hd) rfl rfl (by decide +kernel) (fun p h9 => s_Main_needHand h9) ?_
  intro v1 s2 h
  refine lf_aload rfl ?_
  refine lf_callVWu (as := []) (rest := []) h rfl rfl lf_a0 rfl (Nat.le_trans (by decide) hd) rfl rfl (fun p3 h9 => s_Main_remember h9) ?_
  intro p3 h
  refine lf_aload rfl ?_
  refine lf_getr (ci := 9) (k := 2) lf_a0 rfl (by decide) rfl ?_
  refine lf_getr (ci := 3) (k := 2) (lf_Holt_0 lf_Holt_at10) rfl (by decide) rfl ?_
  refine lf_getr (ci := 2) (k := 1) (lf_Hands_0 (lf_Holt_15 lf_Holt_at10)) rfl (by decide) rfl ?_
  refine lf_iload rfl ?_
  refine lf_aload rfl ?_
  refine lf_getr (ci := 9) (k := 2) lf_a0 rfl (by decide) rfl ?_
  refine lf_getr (ci := 3) (k := 2) (lf_Holt_0 lf_Holt_at10) rfl (by decide) rfl ?_
  refine lf_getr (ci := 2) (k := 1) (lf_Hands_0 (lf_Holt_15 lf_Holt_at10)) rfl (by decide) rfl ?_
  refine lf_iload rfl ?_
  refine lf_iald h (lf_Hands_1 (lf_Holt_15 lf_Holt_at10)) ?_
  intro k4 h
  refine lf_iconst lf_c1 ?_
  refine lf_iadd ?_
  refine lf_iconst lf_c9 ?_
  refine lf_min rfl ?_
  refine lf_iast h (lf_Hands_1 (lf_Holt_15 lf_Holt_at10)) ?_
  intro s6 h
  refine lf_aload rfl ?_
  refine lf_getr (ci := 9) (k := 2) lf_a0 rfl (by decide) rfl ?_
  refine lf_getr (ci := 3) (k := 2) (lf_Holt_0 lf_Holt_at10) rfl (by decide) rfl ?_
  refine lf_getr (ci := 2) (k := 1) (lf_Hands_0 (lf_Holt_15 lf_Holt_at10)) rfl (by decide) rfl ?_
  refine lf_iload rfl ?_
  refine lf_iald h (lf_Hands_1 (lf_Holt_15 lf_Holt_at10)) ?_
  intro k7 h
  cases h
  exact lf_iret ⟨rfl, rfl, rfl⟩
theorem s_Main_make {sc : Nat × (Nat → Int32)} {x1 : Int32} {s : lf_S} {p : (Nat ⊕ Int32) × lf_S} (h : f_Main_make x1 s = some p) : lf_th sc 4 j_Main_make [.ref 0, .int x1] s lf_vi p := by
  refine lf_inT (D := 3) (ls := [.ref 0, .int x1]) rfl (lf_zti (by decide +kernel)) rfl ?_
  intro d hd cl
  unfold f_Main_make at h
  refine lf_blk B_Main_make_0 ?_
  refine lf_aload rfl ?_
  refine lf_iload rfl ?_
  refine lf_callVTu (as := [.int x1]) (rest := []) h rfl rfl lf_a0 rfl (Nat.le_trans (by decide) hd) rfl rfl (by decide +kernel) (fun p h9 => s_Main_needOrder h9) ?_
  intro v1 s2 h
  refine lf_aload rfl ?_
  refine lf_getr (ci := 9) (k := 2) lf_a0 rfl (by decide) rfl ?_
  refine lf_iload rfl ?_
  refine lf_callVRb (as := [.int x1]) (rest := []) h rfl rfl (lf_Holt_0 lf_Holt_at10) rfl (Nat.le_trans (by decide) hd) rfl rfl (fun p3 h9 => s_Holt_canMake lf_Holt_at10 h9) ?_
  intro p3 h
  refine lf_callSTu (as := [.int (lf_i p3)]) (rest := []) h rfl rfl (Nat.le_trans (by decide) hd) rfl rfl (by decide +kernel) (fun p h9 => s_Main_needPossible h9) ?_
  intro v4 s5 h
  refine lf_aload rfl ?_
  refine lf_callVWu (as := []) (rest := []) h rfl rfl lf_a0 rfl (Nat.le_trans (by decide) hd) rfl rfl (fun p6 h9 => s_Main_remember h9) ?_
  intro p6 h
  refine lf_aload rfl ?_
  refine lf_getr (ci := 9) (k := 2) lf_a0 rfl (by decide) rfl ?_
  refine lf_iload rfl ?_
  refine lf_iconst lf_c2 ?_
  refine lf_callVWu (as := [.int x1, .int (2 : Int32)]) (rest := []) h rfl rfl (lf_Holt_0 lf_Holt_at10) rfl (Nat.le_trans (by decide) hd) rfl rfl (fun p7 h9 => s_Holt_makeUp lf_Holt_at10 h9) ?_
  intro p7 h
  refine lf_aload rfl ?_
  refine lf_getr (ci := 9) (k := 2) lf_a0 rfl (by decide) rfl ?_
  refine lf_getf (ci := 3) (k := 8) (lf_Holt_0 lf_Holt_at10) rfl (by decide) rfl ?_
  cases h
  exact lf_iret ⟨rfl, rfl, rfl⟩
theorem s_Main_gain {sc : Nat × (Nat → Int32)} {x1 : Int32} {x2 : Int32} {s : lf_S} {p : (Nat ⊕ Int32) × lf_S} (h : f_Main_gain x1 x2 s = some p) : lf_th sc 3 j_Main_gain [.ref 0, .int x1, .int x2] s lf_vi p := by
  refine lf_inT (D := 2) (ls := [.ref 0, .int x1, .int x2]) rfl (lf_zti (by decide +kernel)) rfl ?_
  intro d hd cl
  unfold f_Main_gain at h
  refine lf_blk B_Main_gain_0 ?_
  refine lf_aload rfl ?_
  refine lf_iload rfl ?_
  refine lf_callVTu (as := [.int x1]) (rest := []) h rfl rfl lf_a0 rfl (Nat.le_trans (by decide) hd) rfl rfl (by decide +kernel) (fun p h9 => s_Main_needBed h9) ?_
  intro v1 s2 h
  refine lf_iload rfl ?_
  refine lf_iconst lf_c0 ?_
  refine lf_iconst lf_c6 ?_
  refine lf_callSTu (as := [.int x2, .int (0 : Int32), .int (6 : Int32)]) (rest := []) h rfl rfl (Nat.le_trans (by decide) hd) rfl rfl (by decide +kernel) (fun p h9 => s_Main_needWithin h9) ?_
  intro v3 s4 h
  refine lf_aload rfl ?_
  refine lf_getr (ci := 9) (k := 2) lf_a0 rfl (by decide) rfl ?_
  refine lf_getr (ci := 3) (k := 0) (lf_Holt_0 lf_Holt_at10) rfl (by decide) rfl ?_
  refine lf_iload rfl ?_
  refine lf_iload rfl ?_
  refine lf_aload rfl ?_
  refine lf_getr (ci := 9) (k := 2) lf_a0 rfl (by decide) rfl ?_
  refine lf_getr (ci := 3) (k := 0) (lf_Holt_0 lf_Holt_at10) rfl (by decide) rfl ?_
  refine lf_iload rfl ?_
  refine lf_iload rfl ?_
  refine lf_callVRi (as := [.int x1, .int x2]) (rest := [.int x2, .int x1, .ref (10 + 1)]) h rfl rfl (lf_Beds_0 (lf_Holt_1 lf_Holt_at10)) rfl (Nat.le_trans (by decide) hd) rfl rfl (fun p5 h9 => s_Beds_bestCuts (lf_Holt_1 lf_Holt_at10) h9) ?_
  intro p5 h
  refine lf_callVRi (as := [.int x1, .int x2, .int p5]) (rest := []) h rfl rfl (lf_Beds_0 (lf_Holt_1 lf_Holt_at10)) rfl (Nat.le_trans (by decide) hd) rfl rfl (fun p6 h9 => s_Beds_feetCut (lf_Holt_1 lf_Holt_at10) h9) ?_
  intro p6 h
  cases h
  exact lf_iret ⟨rfl, rfl, rfl⟩
theorem s_Main_cuts {sc : Nat × (Nat → Int32)} {x1 : Int32} {x2 : Int32} {s : lf_S} {p : (Nat ⊕ Int32) × lf_S} (h : f_Main_cuts x1 x2 s = some p) : lf_th sc 3 j_Main_cuts [.ref 0, .int x1, .int x2] s lf_vi p := by
  refine lf_inT (D := 2) (ls := [.ref 0, .int x1, .int x2]) rfl (lf_zti (by decide +kernel)) rfl ?_
  intro d hd cl
  unfold f_Main_cuts at h
  refine lf_blk B_Main_cuts_0 ?_
  refine lf_aload rfl ?_
  refine lf_iload rfl ?_
  refine lf_callVTu (as := [.int x1]) (rest := []) h rfl rfl lf_a0 rfl (Nat.le_trans (by decide) hd) rfl rfl (by decide +kernel) (fun p h9 => s_Main_needBed h9) ?_
  intro v1 s2 h
  refine lf_iload rfl ?_
  refine lf_iconst lf_c0 ?_
  refine lf_iconst lf_c6 ?_
  refine lf_callSTu (as := [.int x2, .int (0 : Int32), .int (6 : Int32)]) (rest := []) h rfl rfl (Nat.le_trans (by decide) hd) rfl rfl (by decide +kernel) (fun p h9 => s_Main_needWithin h9) ?_
  intro v3 s4 h
  refine lf_aload rfl ?_
  refine lf_getr (ci := 9) (k := 2) lf_a0 rfl (by decide) rfl ?_
  refine lf_getr (ci := 3) (k := 0) (lf_Holt_0 lf_Holt_at10) rfl (by decide) rfl ?_
  refine lf_iload rfl ?_
  refine lf_iload rfl ?_
  refine lf_callVRi (as := [.int x1, .int x2]) (rest := []) h rfl rfl (lf_Beds_0 (lf_Holt_1 lf_Holt_at10)) rfl (Nat.le_trans (by decide) hd) rfl rfl (fun p5 h9 => s_Beds_bestCuts (lf_Holt_1 lf_Holt_at10) h9) ?_
  intro p5 h
  cases h
  exact lf_iret ⟨rfl, rfl, rfl⟩
theorem s_Main_needTape {sc : Nat × (Nat → Int32)} {x0 : Int32} {s : lf_S} {p : (Nat ⊕ Unit) × lf_S} (h : f_Main_needTape x0 s = some p) : lf_th sc 1 j_Main_needTape [.int x0] s lf_vu p := by
  refine lf_inT (D := 0) (ls := [.int x0]) rfl (lf_zti (by decide +kernel)) rfl ?_
  intro d hd cl
  unfold f_Main_needTape at h
  refine lf_blk B_Main_needTape_0 ?_
  refine lf_iload rfl ?_
  refine lf_if_ne h (fun h => ?_) (fun h => ?_)
  · refine lf_blk B_Main_needTape_15 ?_
    cases h
    exact lf_ret ⟨rfl, rfl, rfl⟩
  · cases h
    exact lf_throw rfl
theorem s_Ways_tryRods_48 {sc : Nat × (Nat → Int32)} {d : Nat} {Q : mj_Q} {cl : Bool} {rc rs : Nat} {E : Nat} {q_Ways_tryRods : Int32 → Int32 → Int32 → lf_S → Option (lf_S)} {c1 : Int32} {c2 : Int32} {c3 : Int32} {c4 : Int32} {p : lf_S} (hE : 1 ≤ E) (hq_Ways_tryRods : ∀ (x1 : Int32) (x2 : Int32) (x3 : Int32) (s : lf_S) (p : lf_S), q_Ways_tryRods x1 x2 x3 s = some p → lf_ok sc E j_Ways_tryRods [.ref 3, .int x1, .int x2, .int x3] s (none) p) (hd : E ≤ d) (hk : lf_wp sc d j_Ways_tryRods Q 129 [mj_U, mj_U, mj_U, mj_U, mj_U, mj_U] [] (lf_hp p) cl rc rs) : ∀ (n : Nat) (v5 : Int32) (s : lf_S), f_Ways_tryRods_48 q_Ways_tryRods c1 c2 c3 c4 n v5 s = some p → lf_wp sc d j_Ways_tryRods Q 48 [.ref 3, .int c1, .int c2, .int c3, .int c4, .int v5] [] (lf_hp s) cl rc rs := by
  intro n
  induction n with
  | zero =>
    intro v5 s h
    exact absurd h (fun z => by cases z)
  | succ n ih =>
    intro v5 s h
    unfold f_Ways_tryRods_48 at h
    refine lf_blk B_Ways_tryRods_48 ?_
    refine lf_iload rfl ?_
    refine lf_iload rfl ?_
    refine lf_icmp_gt h (fun h => ?_) (fun h => ?_)
    · rw [← Option.some.inj h] at hk
      exact mj_w_weak (ls := [mj_U, mj_U, mj_U, mj_U, mj_U, mj_U]) (lf_rr (lf_ri (lf_ri (lf_ri (lf_ri (lf_ri (lf_r0))))))) hk
    · refine lf_iload rfl ?_
      refine lf_iconst lf_c8 ?_
      refine lf_icmp_ge h (fun h => ?_) (fun h => ?_)
      · rw [← Option.some.inj h] at hk
        exact mj_w_weak (ls := [mj_U, mj_U, mj_U, mj_U, mj_U, mj_U]) (lf_rr (lf_ri (lf_ri (lf_ri (lf_ri (lf_ri (lf_r0))))))) hk
      · refine lf_aload rfl ?_
        refine lf_getr (ci := 8) (k := 4) lf_a3 rfl (by decide) rfl ?_
        refine lf_iload rfl ?_
        refine lf_iald h lf_a7 ?_
        intro k5 h
        refine lf_iload rfl ?_
        refine lf_iadd ?_
        refine lf_iload rfl ?_
        refine lf_icmp_gt h (fun h => ?_) (fun h => ?_)
        · refine lf_blk B_Ways_tryRods_123 ?_
          refine lf_iinc (L := fun y6 => [.ref 3, .int c1, .int c2, .int c3, .int c4, .int y6]) h lf_c1 rfl rfl (fun _ => rfl) ?_
          intro y6 h
          refine lf_goto ?_
          exact mj_w_weak (ls := [.ref 3, .int c1, .int c2, .int c3, .int c4, .int y6]) (lf_rl (lf_rl (lf_rl (lf_rl (lf_rl (lf_rl (lf_r0))))))) (ih y6 s h)
        · refine lf_aload rfl ?_
          refine lf_getr (ci := 8) (k := 4) lf_a3 rfl (by decide) rfl ?_
          refine lf_iload rfl ?_
          refine lf_dup2 ?_
          refine lf_iald h lf_a7 ?_
          intro k7 h
          refine lf_iload rfl ?_
          refine lf_iadd ?_
          refine lf_iast h lf_a7 ?_
          intro s9 h
          refine lf_aload rfl ?_
          refine lf_getr (ci := 8) (k := 3) lf_a3 rfl (by decide) rfl ?_
          refine lf_iload rfl ?_
          refine lf_iload rfl ?_
          refine lf_iast h lf_a6 ?_
          intro s11 h
          refine lf_aload rfl ?_
          refine lf_iload rfl ?_
          refine lf_iconst lf_c1 ?_
          refine lf_iadd ?_
          refine lf_iload rfl ?_
          refine lf_iload rfl ?_
          refine lf_iconst lf_c1 ?_
          refine lf_iadd ?_
          refine lf_max rfl ?_
          refine lf_iload rfl ?_
          refine lf_callSWu (as := [.ref 3, .int (c1 + (1 : Int32)), .int (lf_mx c2 (v5 + (1 : Int32))), .int c3]) (rest := []) h rfl rfl hd rfl rfl (fun p12 h9 => hq_Ways_tryRods _ _ _ _ _ h9) ?_
          intro p12 h
          refine lf_aload rfl ?_
          refine lf_getr (ci := 8) (k := 4) lf_a3 rfl (by decide) rfl ?_
          refine lf_iload rfl ?_
          refine lf_dup2 ?_
          refine lf_iald h lf_a7 ?_
          intro k13 h
          refine lf_iload rfl ?_
          refine lf_isub ?_
          refine lf_iast h lf_a7 ?_
          intro s15 h
          refine lf_end ?_
          refine lf_blk B_Ways_tryRods_123 ?_
          refine lf_iinc (L := fun y16 => [.ref 3, .int c1, .int c2, .int c3, .int c4, .int y16]) h lf_c1 rfl rfl (fun _ => rfl) ?_
          intro y16 h
          refine lf_goto ?_
          exact mj_w_weak (ls := [.ref 3, .int c1, .int c2, .int c3, .int c4, .int y16]) (lf_rl (lf_rl (lf_rl (lf_rl (lf_rl (lf_rl (lf_r0))))))) (ih y16 s15 h)
theorem sb_Ways_tryRods {sc : Nat × (Nat → Int32)} {E : Nat} {q_Ways_tryRods : Int32 → Int32 → Int32 → lf_S → Option (lf_S)} (hE : 1 ≤ E) (hq_Ways_tryRods : ∀ (x1 : Int32) (x2 : Int32) (x3 : Int32) (s : lf_S) (p : lf_S), q_Ways_tryRods x1 x2 x3 s = some p → lf_ok sc E j_Ways_tryRods [.ref 3, .int x1, .int x2, .int x3] s (none) p) {x1 : Int32} {x2 : Int32} {x3 : Int32} {s : lf_S} {p : lf_S} (h : fb_Ways_tryRods q_Ways_tryRods x1 x2 x3 s = some p) : lf_ok sc (E + 1) j_Ways_tryRods [.ref 3, .int x1, .int x2, .int x3] s (none) p := by
  refine lf_in (D := E) (ls := [.ref 3, .int x1, .int x2, .int x3, mj_U, mj_U]) rfl (lf_zi (by decide +kernel)) rfl ?_
  intro d hd cl rc rs
  unfold fb_Ways_tryRods at h
  refine lf_blk B_Ways_tryRods_0 ?_
  refine lf_aload rfl ?_
  refine lf_getf (ci := 8) (k := 5) lf_a3 rfl (by decide) rfl ?_
  refine lf_iconst lf_cm1 ?_
  refine lf_icmp_eq h (fun h => ?_) (fun h => ?_)
  · refine lf_blk B_Ways_tryRods_17 ?_
    refine lf_iload rfl ?_
    refine lf_aload rfl ?_
    refine lf_getf (ci := 8) (k := 0) lf_a3 rfl (by decide) rfl ?_
    refine lf_icmp_ge h (fun h => ?_) (fun h => ?_)
    · refine lf_blk B_Ways_tryRods_31 ?_
      refine lf_aload rfl ?_
      refine lf_iload rfl ?_
      refine lf_callVWu (as := [.int x2]) (rest := []) h rfl rfl lf_a3 rfl (Nat.le_trans (Nat.le_trans (by decide) hE) hd) rfl rfl (fun p1 h9 => s_Ways_keepTried h9) ?_
      intro p1 h
      cases h
      exact lf_ret ⟨rfl, rfl, rfl⟩
    · refine lf_iload rfl ?_
      refine lf_iconst lf_c8 ?_
      refine lf_icmp_lt h (fun h => ?_) (fun h => ?_)
      · refine lf_blk B_Ways_tryRods_37 ?_
        refine lf_aload rfl ?_
        refine lf_getr (ci := 8) (k := 1) lf_a3 rfl (by decide) rfl ?_
        refine lf_iload rfl ?_
        refine lf_iald h lf_a4 ?_
        intro k2 h
        refine lf_istore (L := fun y3 => [.ref 3, .int x1, .int x2, .int x3, .int y3, mj_U]) h rfl rfl (fun _ => rfl) ?_
        intro y3 h
        refine lf_iconst lf_c0 ?_
        refine lf_istore (L := fun y4 => [.ref 3, .int x1, .int x2, .int x3, .int y3, .int y4]) h rfl rfl (fun _ => rfl) ?_
        intro y4 h
        refine lf_end ?_
        refine lf_loop h (fun p17 hp17 h => ?_)
        refine mj_w_weak (ls := [.ref 3, .int x1, .int x2, .int x3, .int y3, .int y4]) (lf_rl (lf_rl (lf_rl (lf_rl (lf_rl (lf_rl (lf_r0))))))) ?_
        refine s_Ways_tryRods_48 hE hq_Ways_tryRods hd ?_ 5000 y4 s hp17
        refine lf_blk B_Ways_tryRods_129 ?_
        cases h
        exact lf_ret ⟨rfl, rfl, rfl⟩
      · refine lf_end ?_
        refine lf_blk B_Ways_tryRods_31 ?_
        refine lf_aload rfl ?_
        refine lf_iload rfl ?_
        refine lf_callVWu (as := [.int x2]) (rest := []) h rfl rfl lf_a3 rfl (Nat.le_trans (Nat.le_trans (by decide) hE) hd) rfl rfl (fun p18 h9 => s_Ways_keepTried h9) ?_
        intro p18 h
        cases h
        exact lf_ret ⟨rfl, rfl, rfl⟩
  · refine lf_iload rfl ?_
    refine lf_aload rfl ?_
    refine lf_getf (ci := 8) (k := 5) lf_a3 rfl (by decide) rfl ?_
    refine lf_icmp_lt h (fun h => ?_) (fun h => ?_)
    · refine lf_blk B_Ways_tryRods_17 ?_
      refine lf_iload rfl ?_
      refine lf_aload rfl ?_
      refine lf_getf (ci := 8) (k := 0) lf_a3 rfl (by decide) rfl ?_
      refine lf_icmp_ge h (fun h => ?_) (fun h => ?_)
      · refine lf_blk B_Ways_tryRods_31 ?_
        refine lf_aload rfl ?_
        refine lf_iload rfl ?_
        refine lf_callVWu (as := [.int x2]) (rest := []) h rfl rfl lf_a3 rfl (Nat.le_trans (Nat.le_trans (by decide) hE) hd) rfl rfl (fun p19 h9 => s_Ways_keepTried h9) ?_
        intro p19 h
        cases h
        exact lf_ret ⟨rfl, rfl, rfl⟩
      · refine lf_iload rfl ?_
        refine lf_iconst lf_c8 ?_
        refine lf_icmp_lt h (fun h => ?_) (fun h => ?_)
        · refine lf_blk B_Ways_tryRods_37 ?_
          refine lf_aload rfl ?_
          refine lf_getr (ci := 8) (k := 1) lf_a3 rfl (by decide) rfl ?_
          refine lf_iload rfl ?_
          refine lf_iald h lf_a4 ?_
          intro k20 h
          refine lf_istore (L := fun y21 => [.ref 3, .int x1, .int x2, .int x3, .int y21, mj_U]) h rfl rfl (fun _ => rfl) ?_
          intro y21 h
          refine lf_iconst lf_c0 ?_
          refine lf_istore (L := fun y22 => [.ref 3, .int x1, .int x2, .int x3, .int y21, .int y22]) h rfl rfl (fun _ => rfl) ?_
          intro y22 h
          refine lf_end ?_
          refine lf_loop h (fun p23 hp23 h => ?_)
          refine mj_w_weak (ls := [.ref 3, .int x1, .int x2, .int x3, .int y21, .int y22]) (lf_rl (lf_rl (lf_rl (lf_rl (lf_rl (lf_rl (lf_r0))))))) ?_
          refine s_Ways_tryRods_48 hE hq_Ways_tryRods hd ?_ 5000 y22 s hp23
          refine lf_blk B_Ways_tryRods_129 ?_
          cases h
          exact lf_ret ⟨rfl, rfl, rfl⟩
        · refine lf_end ?_
          refine lf_blk B_Ways_tryRods_31 ?_
          refine lf_aload rfl ?_
          refine lf_iload rfl ?_
          refine lf_callVWu (as := [.int x2]) (rest := []) h rfl rfl lf_a3 rfl (Nat.le_trans (Nat.le_trans (by decide) hE) hd) rfl rfl (fun p24 h9 => s_Ways_keepTried h9) ?_
          intro p24 h
          cases h
          exact lf_ret ⟨rfl, rfl, rfl⟩
    · cases h
      exact lf_ret ⟨rfl, rfl, rfl⟩
theorem F_Ways_tryRods_ok {sc : Nat × (Nat → Int32)} : ∀ (n : Nat), (∀ (x1 : Int32) (x2 : Int32) (x3 : Int32) (s : lf_S) (p : lf_S), (F_Ways_tryRods n) x1 x2 x3 s = some p → lf_ok sc (1 + n) j_Ways_tryRods [.ref 3, .int x1, .int x2, .int x3] s (none) p) := by
  intro n
  induction n with
  | zero => exact fun _ _ _ s p h => absurd h (fun q => by cases q)
  | succ n ih => exact fun x1 x2 x3 s p h => sb_Ways_tryRods (Nat.le_add_right _ _) ih h
theorem s_Ways_tryRods {sc : Nat × (Nat → Int32)} {x1 : Int32} {x2 : Int32} {x3 : Int32} {s : lf_S} {p : lf_S} (h : f_Ways_tryRods x1 x2 x3 s = some p) : lf_ok sc 65 j_Ways_tryRods [.ref 3, .int x1, .int x2, .int x3] s (none) p := (F_Ways_tryRods_ok 64) x1 x2 x3 s p h
theorem s_Ways_fewestRods {sc : Nat × (Nat → Int32)} {x1 : Int32} {s : lf_S} {p : Int32 × lf_S} (h : f_Ways_fewestRods x1 s = some p) : lf_ok sc 66 j_Ways_fewestRods [.ref 3, .int x1] s (some (.int p.1)) p.2 := by
  refine lf_in (D := 65) (ls := [.ref 3, .int x1]) rfl (lf_zi (by decide +kernel)) rfl ?_
  intro d hd cl rc rs
  unfold f_Ways_fewestRods at h
  refine lf_blk B_Ways_fewestRods_0 ?_
  refine lf_aload rfl ?_
  refine lf_callVWu (as := []) (rest := []) h rfl rfl lf_a3 rfl (Nat.le_trans (by decide) hd) rfl rfl (fun p1 h9 => s_Ways_beginTrying h9) ?_
  intro p1 h
  refine lf_aload rfl ?_
  refine lf_iconst lf_c0 ?_
  refine lf_iconst lf_c0 ?_
  refine lf_iconst lf_c12 ?_
  refine lf_iload rfl ?_
  refine lf_imul ?_
  refine lf_callSWu (as := [.ref 3, .int (0 : Int32), .int (0 : Int32), .int ((12 : Int32) * x1)]) (rest := []) h rfl rfl (Nat.le_trans (by decide) hd) rfl rfl (fun p2 h9 => s_Ways_tryRods h9) ?_
  intro p2 h
  refine lf_aload rfl ?_
  refine lf_getf (ci := 8) (k := 5) lf_a3 rfl (by decide) rfl ?_
  cases h
  exact lf_iret ⟨rfl, rfl, rfl⟩
theorem s_Main_pieces {sc : Nat × (Nat → Int32)} {x1 : Int32} {s : lf_S} {p : (Nat ⊕ Int32) × lf_S} (h : f_Main_pieces x1 s = some p) : lf_th sc 67 j_Main_pieces [.ref 0, .int x1] s lf_vi p := by
  refine lf_inT (D := 66) (ls := [.ref 0, .int x1, mj_U]) rfl (lf_zti (by decide +kernel)) rfl ?_
  intro d hd cl
  unfold f_Main_pieces at h
  refine lf_blk B_Main_pieces_0 ?_
  refine lf_aload rfl ?_
  refine lf_getr (ci := 9) (k := 1) lf_a0 rfl (by decide) rfl ?_
  refine lf_aload rfl ?_
  refine lf_getr (ci := 9) (k := 0) lf_a0 rfl (by decide) rfl ?_
  refine lf_callVWb (as := [.ref 1]) (rest := []) h rfl rfl lf_a3 rfl (Nat.le_trans (by decide) hd) rfl rfl (fun p1 h9 => s_Ways_takePieces h9) ?_
  intro p1 h
  refine lf_istoreb (L := fun e2 => [.ref 0, .int x1, .int (lf_i e2)]) h rfl rfl (fun _ => rfl) ?_
  intro e2 h
  refine lf_iload rfl ?_
  refine lf_callSTu (as := [.int x1]) (rest := []) h rfl rfl (Nat.le_trans (by decide) hd) rfl rfl (by decide +kernel) (fun p h9 => s_Main_needFeet h9) ?_
  intro v3 s4 h
  refine lf_iload rfl ?_
  refine lf_callSTu (as := [.int (lf_i e2)]) (rest := []) h rfl rfl (Nat.le_trans (by decide) hd) rfl rfl (by decide +kernel) (fun p h9 => s_Main_needTape h9) ?_
  intro v5 s6 h
  refine lf_aload rfl ?_
  refine lf_getr (ci := 9) (k := 1) lf_a0 rfl (by decide) rfl ?_
  refine lf_iload rfl ?_
  refine lf_callVWi (as := [.int x1]) (rest := []) h rfl rfl lf_a3 rfl (Nat.le_trans (by decide) hd) rfl rfl (fun p7 h9 => s_Ways_fewestRods h9) ?_
  intro p7 h
  cases h
  exact lf_iret ⟨rfl, rfl, rfl⟩
theorem s_Main_rod {sc : Nat × (Nat → Int32)} {x1 : Int32} {x2 : Int32} {s : lf_S} {p : (Nat ⊕ Int32) × lf_S} (h : f_Main_rod x1 x2 s = some p) : lf_th sc 67 j_Main_rod [.ref 0, .int x1, .int x2] s lf_vi p := by
  refine lf_inT (D := 66) (ls := [.ref 0, .int x1, .int x2, mj_U]) rfl (lf_zti (by decide +kernel)) rfl ?_
  intro d hd cl
  unfold f_Main_rod at h
  refine lf_blk B_Main_rod_0 ?_
  refine lf_aload rfl ?_
  refine lf_getr (ci := 9) (k := 1) lf_a0 rfl (by decide) rfl ?_
  refine lf_aload rfl ?_
  refine lf_getr (ci := 9) (k := 0) lf_a0 rfl (by decide) rfl ?_
  refine lf_callVWb (as := [.ref 1]) (rest := []) h rfl rfl lf_a3 rfl (Nat.le_trans (by decide) hd) rfl rfl (fun p1 h9 => s_Ways_takePieces h9) ?_
  intro p1 h
  refine lf_istoreb (L := fun e2 => [.ref 0, .int x1, .int x2, .int (lf_i e2)]) h rfl rfl (fun _ => rfl) ?_
  intro e2 h
  refine lf_iload rfl ?_
  refine lf_callSTu (as := [.int x1]) (rest := []) h rfl rfl (Nat.le_trans (by decide) hd) rfl rfl (by decide +kernel) (fun p h9 => s_Main_needFeet h9) ?_
  intro v3 s4 h
  refine lf_iload rfl ?_
  refine lf_callSTu (as := [.int (lf_i e2)]) (rest := []) h rfl rfl (Nat.le_trans (by decide) hd) rfl rfl (by decide +kernel) (fun p h9 => s_Main_needTape h9) ?_
  intro v5 s6 h
  refine lf_aload rfl ?_
  refine lf_getr (ci := 9) (k := 1) lf_a0 rfl (by decide) rfl ?_
  refine lf_iload rfl ?_
  refine lf_callVWi (as := [.int x1]) (rest := []) h rfl rfl lf_a3 rfl (Nat.le_trans (by decide) hd) rfl rfl (fun p7 h9 => s_Ways_fewestRods h9) ?_
  intro p7 h
  refine lf_iconst lf_cm1 ?_
  refine lf_icmp_eq h (fun h => ?_) (fun h => ?_)
  · refine lf_blk B_Main_rod_47 ?_
    refine lf_iconst lf_cm1 ?_
    cases h
    exact lf_iret ⟨rfl, rfl, rfl⟩
  · refine lf_iload rfl ?_
    refine lf_if_lt h (fun h => ?_) (fun h => ?_)
    · refine lf_blk B_Main_rod_47 ?_
      refine lf_iconst lf_cm1 ?_
      cases h
      exact lf_iret ⟨rfl, rfl, rfl⟩
    · refine lf_iload rfl ?_
      refine lf_aload rfl ?_
      refine lf_getr (ci := 9) (k := 1) lf_a0 rfl (by decide) rfl ?_
      refine lf_getf (ci := 8) (k := 0) lf_a3 rfl (by decide) rfl ?_
      refine lf_icmp_lt h (fun h => ?_) (fun h => ?_)
      · refine lf_blk B_Main_rod_49 ?_
        refine lf_aload rfl ?_
        refine lf_getr (ci := 9) (k := 1) lf_a0 rfl (by decide) rfl ?_
        refine lf_getr (ci := 8) (k := 2) lf_a3 rfl (by decide) rfl ?_
        refine lf_iload rfl ?_
        refine lf_iald h lf_a5 ?_
        intro k8 h
        cases h
        exact lf_iret ⟨rfl, rfl, rfl⟩
      · refine lf_end ?_
        refine lf_blk B_Main_rod_47 ?_
        refine lf_iconst lf_cm1 ?_
        cases h
        exact lf_iret ⟨rfl, rfl, rfl⟩
theorem s_Main_found {sc : Nat × (Nat → Int32)} {x1 : Int32} {s : lf_S} {p : (Nat ⊕ Int32) × lf_S} (h : f_Main_found x1 s = some p) : lf_th sc 4 j_Main_found [.ref 0, .int x1] s lf_vi p := by
  refine lf_inT (D := 3) (ls := [.ref 0, .int x1]) rfl (lf_zti (by decide +kernel)) rfl ?_
  intro d hd cl
  unfold f_Main_found at h
  refine lf_blk B_Main_found_0 ?_
  refine lf_aload rfl ?_
  refine lf_getr (ci := 9) (k := 1) lf_a0 rfl (by decide) rfl ?_
  refine lf_aload rfl ?_
  refine lf_getr (ci := 9) (k := 0) lf_a0 rfl (by decide) rfl ?_
  refine lf_callVWb (as := [.ref 1]) (rest := []) h rfl rfl lf_a3 rfl (Nat.le_trans (by decide) hd) rfl rfl (fun p1 h9 => s_Ways_takeSeen h9) ?_
  intro p1 h
  refine lf_callSTu (as := [.int (lf_i p1.1)]) (rest := []) h rfl rfl (Nat.le_trans (by decide) hd) rfl rfl (by decide +kernel) (fun p h9 => s_Main_needTape h9) ?_
  intro v2 s3 h
  refine lf_aload rfl ?_
  refine lf_getr (ci := 9) (k := 1) lf_a0 rfl (by decide) rfl ?_
  refine lf_callVWu (as := []) (rest := []) h rfl rfl lf_a3 rfl (Nat.le_trans (by decide) hd) rfl rfl (fun p4 h9 => s_Ways_findWeaves h9) ?_
  intro p4 h
  refine lf_iload rfl ?_
  refine lf_if_ne h (fun h => ?_) (fun h => ?_)
  · refine lf_blk B_Main_found_33 ?_
    refine lf_aload rfl ?_
    refine lf_getr (ci := 9) (k := 1) lf_a0 rfl (by decide) rfl ?_
    refine lf_getf (ci := 8) (k := 6) lf_a3 rfl (by decide) rfl ?_
    refine lf_if_le h (fun h => ?_) (fun h => ?_)
    · refine lf_blk B_Main_found_55 ?_
      refine lf_iconst lf_cm1 ?_
      refine lf_end ?_
      refine lf_blk B_Main_found_56 ?_
      cases h
      exact lf_iret ⟨rfl, rfl, rfl⟩
    · refine lf_aload rfl ?_
      refine lf_getr (ci := 9) (k := 1) lf_a0 rfl (by decide) rfl ?_
      refine lf_getr (ci := 8) (k := 7) lf_a3 rfl (by decide) rfl ?_
      refine lf_iconst lf_c0 ?_
      refine lf_iald h lf_a8 ?_
      intro k5 h
      refine lf_goto ?_
      refine lf_blk B_Main_found_56 ?_
      cases h
      exact lf_iret ⟨rfl, rfl, rfl⟩
  · refine lf_aload rfl ?_
    refine lf_getr (ci := 9) (k := 1) lf_a0 rfl (by decide) rfl ?_
    refine lf_getf (ci := 8) (k := 6) lf_a3 rfl (by decide) rfl ?_
    cases h
    exact lf_iret ⟨rfl, rfl, rfl⟩
theorem s_Main_look {sc : Nat × (Nat → Int32)} {s : lf_S} {p : (Nat ⊕ Int32) × lf_S} (h : f_Main_look s = some p) : lf_th sc 4 j_Main_look [.ref 0] s lf_vi p := by
  refine lf_inT (D := 3) (ls := [.ref 0]) rfl (lf_zti (by decide +kernel)) rfl ?_
  intro d hd cl
  unfold f_Main_look at h
  refine lf_blk B_Main_look_0 ?_
  refine lf_aload rfl ?_
  refine lf_getr (ci := 9) (k := 1) lf_a0 rfl (by decide) rfl ?_
  refine lf_aload rfl ?_
  refine lf_getr (ci := 9) (k := 0) lf_a0 rfl (by decide) rfl ?_
  refine lf_callVWb (as := [.ref 1]) (rest := []) h rfl rfl lf_a3 rfl (Nat.le_trans (by decide) hd) rfl rfl (fun p1 h9 => s_Ways_takeSeen h9) ?_
  intro p1 h
  refine lf_callSTu (as := [.int (lf_i p1.1)]) (rest := []) h rfl rfl (Nat.le_trans (by decide) hd) rfl rfl (by decide +kernel) (fun p h9 => s_Main_needTape h9) ?_
  intro v2 s3 h
  refine lf_aload rfl ?_
  refine lf_getr (ci := 9) (k := 1) lf_a0 rfl (by decide) rfl ?_
  refine lf_callVWu (as := []) (rest := []) h rfl rfl lf_a3 rfl (Nat.le_trans (by decide) hd) rfl rfl (fun p4 h9 => s_Ways_findWeaves h9) ?_
  intro p4 h
  refine lf_aload rfl ?_
  refine lf_getr (ci := 9) (k := 1) lf_a0 rfl (by decide) rfl ?_
  refine lf_callVRi (as := []) (rest := []) h rfl rfl lf_a3 rfl (Nat.le_trans (by decide) hd) rfl rfl (fun p5 h9 => s_Ways_placeToLook h9) ?_
  intro p5 h
  cases h
  exact lf_iret ⟨rfl, rfl, rfl⟩
theorem s_Ways_tryTeam_48 {sc : Nat × (Nat → Int32)} {d : Nat} {Q : mj_Q} {cl : Bool} {rc rs : Nat} {E : Nat} {q_Ways_tryTeam : Nat → Int32 → Int32 → Int32 → lf_S → Option (lf_S)} {a1 : Nat} {c2 : Int32} {c3 : Int32} {c4 : Int32} {p : lf_S} (hE : 1 ≤ E) (hq_Ways_tryTeam : ∀ (a1 : Nat) (x2 : Int32) (x3 : Int32) (x4 : Int32) (ha1 : lf_Holt a1) (s : lf_S) (p : lf_S), q_Ways_tryTeam a1 x2 x3 x4 s = some p → lf_ok sc E j_Ways_tryTeam [.ref 3, .ref a1, .int x2, .int x3, .int x4] s (none) p) (ha1 : lf_Holt a1) (hd : E ≤ d) (hk : lf_wp sc d j_Ways_tryTeam Q 135 [mj_U, mj_U, mj_U, mj_U, mj_U, mj_U, mj_U] [] (lf_hp p) cl rc rs) : ∀ (n : Nat) (v5 : Int32) (s : lf_S), f_Ways_tryTeam_48 q_Ways_tryTeam a1 c2 c3 c4 n v5 s = some p → lf_wp sc d j_Ways_tryTeam Q 48 [.ref 3, .ref a1, .int c2, .int c3, .int c4, .int v5, mj_U] [] (lf_hp s) cl rc rs := by
  intro n
  induction n with
  | zero =>
    intro v5 s h
    exact absurd h (fun z => by cases z)
  | succ n ih =>
    intro v5 s h
    unfold f_Ways_tryTeam_48 at h
    refine lf_blk B_Ways_tryTeam_48 ?_
    refine lf_iload rfl ?_
    refine lf_aload rfl ?_
    refine lf_getr (ci := 3) (k := 3) (lf_Holt_0 ha1) rfl (by decide) rfl ?_
    refine lf_getf (ci := 6) (k := 0) (lf_Orders_0 (lf_Holt_18 ha1)) rfl (by decide) rfl ?_
    refine lf_icmp_ge h (fun h => ?_) (fun h => ?_)
    · rw [← Option.some.inj h] at hk
      exact mj_w_weak (ls := [mj_U, mj_U, mj_U, mj_U, mj_U, mj_U, mj_U]) (lf_rr (lf_rr (lf_ri (lf_ri (lf_ri (lf_ri (lf_rl (lf_r0)))))))) hk
    · refine lf_iload rfl ?_
      refine lf_iload rfl ?_
      refine lf_ishr ?_
      refine lf_iconst lf_c1 ?_
      refine lf_iand ?_
      refine lf_iconst lf_c1 ?_
      refine lf_icmp_ne h (fun h => ?_) (fun h => ?_)
      · refine lf_blk B_Ways_tryTeam_129 ?_
        refine lf_iinc (L := fun y5 => [.ref 3, .ref a1, .int c2, .int c3, .int c4, .int y5, mj_U]) h lf_c1 rfl rfl (fun _ => rfl) ?_
        intro y5 h
        refine lf_goto ?_
        exact mj_w_weak (ls := [.ref 3, .ref a1, .int c2, .int c3, .int c4, .int y5, mj_U]) (lf_rl (lf_rl (lf_rl (lf_rl (lf_rl (lf_rl (lf_rl (lf_r0)))))))) (ih y5 s h)
      · refine lf_aload rfl ?_
        refine lf_getr (ci := 3) (k := 1) (lf_Holt_0 ha1) rfl (by decide) rfl ?_
        refine lf_getr (ci := 0) (k := 4) (lf_Baskets_0 (lf_Holt_6 ha1)) rfl (by decide) rfl ?_
        refine lf_aload rfl ?_
        refine lf_getr (ci := 3) (k := 3) (lf_Holt_0 ha1) rfl (by decide) rfl ?_
        refine lf_getr (ci := 6) (k := 2) (lf_Orders_0 (lf_Holt_18 ha1)) rfl (by decide) rfl ?_
        refine lf_iload rfl ?_
        refine lf_iald h (lf_Orders_1 (lf_Holt_18 ha1)) ?_
        intro k6 h
        refine lf_iald h (lf_Baskets_4 (lf_Holt_6 ha1)) ?_
        intro k7 h
        refine lf_istore (L := fun y8 => [.ref 3, .ref a1, .int c2, .int c3, .int c4, .int v5, .int y8]) h rfl rfl (fun _ => rfl) ?_
        intro y8 h
        refine lf_aload rfl ?_
        refine lf_getr (ci := 8) (k := 3) lf_a3 rfl (by decide) rfl ?_
        refine lf_iload rfl ?_
        refine lf_iload rfl ?_
        refine lf_iast h lf_a6 ?_
        intro s10 h
        refine lf_aload rfl ?_
        refine lf_aload rfl ?_
        refine lf_iload rfl ?_
        refine lf_iconst lf_c1 ?_
        refine lf_iadd ?_
        refine lf_iload rfl ?_
        refine lf_iconst lf_c1 ?_
        refine lf_iload rfl ?_
        refine lf_ishl ?_
        refine lf_iconst lf_cm1 ?_
        refine lf_ixor ?_
        refine lf_iand ?_
        refine lf_iload rfl ?_
        refine lf_aload rfl ?_
        refine lf_getr (ci := 3) (k := 2) (lf_Holt_0 ha1) rfl (by decide) rfl ?_
        refine lf_getr (ci := 2) (k := 1) (lf_Hands_0 (lf_Holt_15 ha1)) rfl (by decide) rfl ?_
        refine lf_iload rfl ?_
        refine lf_iald h (lf_Hands_1 (lf_Holt_15 ha1)) ?_
        intro k11 h
        refine lf_iload rfl ?_
        refine lf_imul ?_
        refine lf_iadd ?_
        refine lf_callSWu (as := [.ref 3, .ref a1, .int (c2 + (1 : Int32)), .int (c3 &&& (((1 : Int32) <<< (v5 &&& 31)) ^^^ (-1 : Int32))), .int (c4 + ((s10.1 ((a1 + 15) + 1) k11) * y8))]) (rest := []) h rfl rfl hd rfl rfl (fun p12 h9 => hq_Ways_tryTeam _ _ _ _ ha1 _ _ h9) ?_
        intro p12 h
        refine lf_end ?_
        refine lf_blk B_Ways_tryTeam_129 ?_
        refine lf_iinc (L := fun y13 => [.ref 3, .ref a1, .int c2, .int c3, .int c4, .int y13, .int y8]) h lf_c1 rfl rfl (fun _ => rfl) ?_
        intro y13 h
        refine lf_goto ?_
        exact mj_w_weak (ls := [.ref 3, .ref a1, .int c2, .int c3, .int c4, .int y13, mj_U]) (lf_rl (lf_rl (lf_rl (lf_rl (lf_rl (lf_rl (lf_ri (lf_r0)))))))) (ih y13 p12 h)
theorem sb_Ways_tryTeam {sc : Nat × (Nat → Int32)} {E : Nat} {q_Ways_tryTeam : Nat → Int32 → Int32 → Int32 → lf_S → Option (lf_S)} (hE : 1 ≤ E) (hq_Ways_tryTeam : ∀ (a1 : Nat) (x2 : Int32) (x3 : Int32) (x4 : Int32) (ha1 : lf_Holt a1) (s : lf_S) (p : lf_S), q_Ways_tryTeam a1 x2 x3 x4 s = some p → lf_ok sc E j_Ways_tryTeam [.ref 3, .ref a1, .int x2, .int x3, .int x4] s (none) p) {a1 : Nat} {x2 : Int32} {x3 : Int32} {x4 : Int32} (ha1 : lf_Holt a1) {s : lf_S} {p : lf_S} (h : fb_Ways_tryTeam q_Ways_tryTeam a1 x2 x3 x4 s = some p) : lf_ok sc (E + 1) j_Ways_tryTeam [.ref 3, .ref a1, .int x2, .int x3, .int x4] s (none) p := by
  refine lf_in (D := E) (ls := [.ref 3, .ref a1, .int x2, .int x3, .int x4, mj_U, mj_U]) rfl (lf_zi (by decide +kernel)) rfl ?_
  intro d hd cl rc rs
  unfold fb_Ways_tryTeam at h
  refine lf_blk B_Ways_tryTeam_0 ?_
  refine lf_iload rfl ?_
  refine lf_aload rfl ?_
  refine lf_getr (ci := 3) (k := 2) (lf_Holt_0 ha1) rfl (by decide) rfl ?_
  refine lf_getf (ci := 2) (k := 0) (lf_Hands_0 (lf_Holt_15 ha1)) rfl (by decide) rfl ?_
  refine lf_icmp_lt h (fun h => ?_) (fun h => ?_)
  · refine lf_blk B_Ways_tryTeam_27 ?_
    refine lf_aload rfl ?_
    refine lf_getr (ci := 8) (k := 3) lf_a3 rfl (by decide) rfl ?_
    refine lf_iload rfl ?_
    refine lf_iconst lf_cm1 ?_
    refine lf_iast h lf_a6 ?_
    intro s2 h
    refine lf_aload rfl ?_
    refine lf_aload rfl ?_
    refine lf_iload rfl ?_
    refine lf_iconst lf_c1 ?_
    refine lf_iadd ?_
    refine lf_iload rfl ?_
    refine lf_iload rfl ?_
    refine lf_callSWu (as := [.ref 3, .ref a1, .int (x2 + (1 : Int32)), .int x3, .int x4]) (rest := []) h rfl rfl hd rfl rfl (fun p3 h9 => hq_Ways_tryTeam _ _ _ _ ha1 _ _ h9) ?_
    intro p3 h
    refine lf_iconst lf_c0 ?_
    refine lf_istore (L := fun y4 => [.ref 3, .ref a1, .int x2, .int x3, .int x4, .int y4, mj_U]) h rfl rfl (fun _ => rfl) ?_
    intro y4 h
    refine lf_end ?_
    refine lf_loop h (fun p14 hp14 h => ?_)
    refine mj_w_weak (ls := [.ref 3, .ref a1, .int x2, .int x3, .int x4, .int y4, mj_U]) (lf_rl (lf_rl (lf_rl (lf_rl (lf_rl (lf_rl (lf_rl (lf_r0)))))))) ?_
    refine s_Ways_tryTeam_48 hE hq_Ways_tryTeam ha1 hd ?_ 5000 y4 p3 hp14
    refine lf_blk B_Ways_tryTeam_135 ?_
    cases h
    exact lf_ret ⟨rfl, rfl, rfl⟩
  · refine lf_iload rfl ?_
    refine lf_aload rfl ?_
    refine lf_getf (ci := 8) (k := 5) lf_a3 rfl (by decide) rfl ?_
    refine lf_icmp_le h (fun h => ?_) (fun h => ?_)
    · refine lf_blk B_Ways_tryTeam_26 ?_
      cases h
      exact lf_ret ⟨rfl, rfl, rfl⟩
    · refine lf_aload rfl ?_
      refine lf_iload rfl ?_
      refine lf_callVWu (as := [.int x4]) (rest := []) h rfl rfl lf_a3 rfl (Nat.le_trans (Nat.le_trans (by decide) hE) hd) rfl rfl (fun p15 h9 => s_Ways_keepTried h9) ?_
      intro p15 h
      refine lf_end ?_
      refine lf_blk B_Ways_tryTeam_26 ?_
      cases h
      exact lf_ret ⟨rfl, rfl, rfl⟩
theorem F_Ways_tryTeam_ok {sc : Nat × (Nat → Int32)} : ∀ (n : Nat), (∀ (a1 : Nat) (x2 : Int32) (x3 : Int32) (x4 : Int32) (ha1 : lf_Holt a1) (s : lf_S) (p : lf_S), (F_Ways_tryTeam n) a1 x2 x3 x4 s = some p → lf_ok sc (1 + n) j_Ways_tryTeam [.ref 3, .ref a1, .int x2, .int x3, .int x4] s (none) p) := by
  intro n
  induction n with
  | zero => exact fun _ _ _ _ _ s p h => absurd h (fun q => by cases q)
  | succ n ih => exact fun a1 x2 x3 x4 ha1 s p h => sb_Ways_tryTeam (Nat.le_add_right _ _) ih ha1 h
theorem s_Ways_tryTeam {sc : Nat × (Nat → Int32)} {a1 : Nat} {x2 : Int32} {x3 : Int32} {x4 : Int32} (ha1 : lf_Holt a1) {s : lf_S} {p : lf_S} (h : f_Ways_tryTeam a1 x2 x3 x4 s = some p) : lf_ok sc 65 j_Ways_tryTeam [.ref 3, .ref a1, .int x2, .int x3, .int x4] s (none) p := (F_Ways_tryTeam_ok 64) a1 x2 x3 x4 ha1 s p h
theorem s_Ways_bestTeam {sc : Nat × (Nat → Int32)} {a1 : Nat} (ha1 : lf_Holt a1) {s : lf_S} {p : Int32 × lf_S} (h : f_Ways_bestTeam a1 s = some p) : lf_ok sc 66 j_Ways_bestTeam [.ref 3, .ref a1] s (some (.int p.1)) p.2 := by
  refine lf_in (D := 65) (ls := [.ref 3, .ref a1]) rfl (lf_zi (by decide +kernel)) rfl ?_
  intro d hd cl rc rs
  unfold f_Ways_bestTeam at h
  refine lf_blk B_Ways_bestTeam_0 ?_
  refine lf_aload rfl ?_
  refine lf_callVWu (as := []) (rest := []) h rfl rfl lf_a3 rfl (Nat.le_trans (by decide) hd) rfl rfl (fun p1 h9 => s_Ways_beginTrying h9) ?_
  intro p1 h
  refine lf_aload rfl ?_
  refine lf_aload rfl ?_
  refine lf_iconst lf_c0 ?_
  refine lf_aload rfl ?_
  refine lf_getr (ci := 3) (k := 3) (lf_Holt_0 ha1) rfl (by decide) rfl ?_
  refine lf_getf (ci := 6) (k := 1) (lf_Orders_0 (lf_Holt_18 ha1)) rfl (by decide) rfl ?_
  refine lf_iconst lf_c0 ?_
  refine lf_callSWu (as := [.ref 3, .ref a1, .int (0 : Int32), .int (p1.1 (a1 + 18) 1), .int (0 : Int32)]) (rest := []) h rfl rfl (Nat.le_trans (by decide) hd) rfl rfl (fun p2 h9 => s_Ways_tryTeam ha1 h9) ?_
  intro p2 h
  refine lf_aload rfl ?_
  refine lf_getf (ci := 8) (k := 5) lf_a3 rfl (by decide) rfl ?_
  cases h
  exact lf_iret ⟨rfl, rfl, rfl⟩
theorem s_Main_team {sc : Nat × (Nat → Int32)} {x1 : Int32} {s : lf_S} {p : (Nat ⊕ Int32) × lf_S} (h : f_Main_team x1 s = some p) : lf_th sc 67 j_Main_team [.ref 0, .int x1] s lf_vi p := by
  refine lf_inT (D := 66) (ls := [.ref 0, .int x1, mj_U]) rfl (lf_zti (by decide +kernel)) rfl ?_
  intro d hd cl
  unfold f_Main_team at h
  refine lf_blk B_Main_team_0 ?_
  refine lf_iload rfl ?_
  refine lf_iconst lf_cm1 ?_
  refine lf_icmp_eq h (fun h => ?_) (fun h => ?_)
  · refine lf_blk B_Main_team_10 ?_
    refine lf_aload rfl ?_
    refine lf_getr (ci := 9) (k := 1) lf_a0 rfl (by decide) rfl ?_
    refine lf_aload rfl ?_
    refine lf_getr (ci := 9) (k := 2) lf_a0 rfl (by decide) rfl ?_
    refine lf_callVWi (as := [.ref 10]) (rest := []) h rfl rfl lf_a3 rfl (Nat.le_trans (by decide) hd) rfl rfl (fun p1 h9 => s_Ways_bestTeam lf_Holt_at10 h9) ?_
    intro p1 h
    refine lf_istore (L := fun y2 => [.ref 0, .int x1, .int y2]) h rfl rfl (fun _ => rfl) ?_
    intro y2 h
    refine lf_iload rfl ?_
    refine lf_iconst lf_cm1 ?_
    refine lf_icmp_ne h (fun h => ?_) (fun h => ?_)
    · refine lf_blk B_Main_team_31 ?_
      refine lf_aload rfl ?_
      refine lf_getr (ci := 9) (k := 1) lf_a0 rfl (by decide) rfl ?_
      refine lf_getr (ci := 8) (k := 2) lf_a3 rfl (by decide) rfl ?_
      refine lf_iload rfl ?_
      refine lf_iald h lf_a5 ?_
      intro k3 h
      refine lf_end ?_
      refine lf_blk B_Main_team_40 ?_
      cases h
      exact lf_iret ⟨rfl, rfl, rfl⟩
    · refine lf_iload rfl ?_
      refine lf_goto ?_
      refine lf_blk B_Main_team_40 ?_
      cases h
      exact lf_iret ⟨rfl, rfl, rfl⟩
  · refine lf_aload rfl ?_
    refine lf_iload rfl ?_
    refine lf_callVTu (as := [.int x1]) (rest := []) h rfl rfl lf_a0 rfl (Nat.le_trans (by decide) hd) rfl rfl (by decide +kernel) (fun p h9 => s_Main_needHand h9) ?_
    intro v4 s5 h
    refine lf_end ?_
    refine lf_blk B_Main_team_10 ?_
    refine lf_aload rfl ?_
    refine lf_getr (ci := 9) (k := 1) lf_a0 rfl (by decide) rfl ?_
    refine lf_aload rfl ?_
    refine lf_getr (ci := 9) (k := 2) lf_a0 rfl (by decide) rfl ?_
    refine lf_callVWi (as := [.ref 10]) (rest := []) h rfl rfl lf_a3 rfl (Nat.le_trans (by decide) hd) rfl rfl (fun p6 h9 => s_Ways_bestTeam lf_Holt_at10 h9) ?_
    intro p6 h
    refine lf_istore (L := fun y7 => [.ref 0, .int x1, .int y7]) h rfl rfl (fun _ => rfl) ?_
    intro y7 h
    refine lf_iload rfl ?_
    refine lf_iconst lf_cm1 ?_
    refine lf_icmp_ne h (fun h => ?_) (fun h => ?_)
    · refine lf_blk B_Main_team_31 ?_
      refine lf_aload rfl ?_
      refine lf_getr (ci := 9) (k := 1) lf_a0 rfl (by decide) rfl ?_
      refine lf_getr (ci := 8) (k := 2) lf_a3 rfl (by decide) rfl ?_
      refine lf_iload rfl ?_
      refine lf_iald h lf_a5 ?_
      intro k8 h
      refine lf_end ?_
      refine lf_blk B_Main_team_40 ?_
      cases h
      exact lf_iret ⟨rfl, rfl, rfl⟩
    · refine lf_iload rfl ?_
      refine lf_goto ?_
      refine lf_blk B_Main_team_40 ?_
      cases h
      exact lf_iret ⟨rfl, rfl, rfl⟩
theorem s_Ways_tryPairs_47 {sc : Nat × (Nat → Int32)} {d : Nat} {Q : mj_Q} {cl : Bool} {rc rs : Nat} {E : Nat} {q_Ways_tryPairs : Nat → Int32 → Int32 → lf_S → Option (lf_S)} {a1 : Nat} {c2 : Int32} {c3 : Int32} {p : lf_S} (hE : 1 ≤ E) (hq_Ways_tryPairs : ∀ (a1 : Nat) (x2 : Int32) (x3 : Int32) (ha1 : lf_Beds a1) (s : lf_S) (p : lf_S), q_Ways_tryPairs a1 x2 x3 s = some p → lf_ok sc E j_Ways_tryPairs [.ref 3, .ref a1, .int x2, .int x3] s (none) p) (ha1 : lf_Beds a1) (hd : E ≤ d) (hk : lf_wp sc d j_Ways_tryPairs Q 144 [mj_U, mj_U, mj_U, mj_U, mj_U] [] (lf_hp p) cl rc rs) : ∀ (n : Nat) (v4 : Int32) (s : lf_S), f_Ways_tryPairs_47 q_Ways_tryPairs a1 c2 c3 n v4 s = some p → lf_wp sc d j_Ways_tryPairs Q 47 [.ref 3, .ref a1, .int c2, .int c3, .int v4] [] (lf_hp s) cl rc rs := by
  intro n
  induction n with
  | zero =>
    intro v4 s h
    exact absurd h (fun z => by cases z)
  | succ n ih =>
    intro v4 s h
    unfold f_Ways_tryPairs_47 at h
    refine lf_blk B_Ways_tryPairs_47 ?_
    refine lf_iload rfl ?_
    refine lf_aload rfl ?_
    refine lf_getf (ci := 1) (k := 0) (lf_Beds_0 ha1) rfl (by decide) rfl ?_
    refine lf_icmp_ge h (fun h => ?_) (fun h => ?_)
    · rw [← Option.some.inj h] at hk
      exact mj_w_weak (ls := [mj_U, mj_U, mj_U, mj_U, mj_U]) (lf_rr (lf_rr (lf_ri (lf_ri (lf_ri (lf_r0)))))) hk
    · refine lf_aload rfl ?_
      refine lf_getr (ci := 8) (k := 3) lf_a3 rfl (by decide) rfl ?_
      refine lf_iload rfl ?_
      refine lf_iald h lf_a6 ?_
      intro k4 h
      refine lf_iconst lf_cm1 ?_
      refine lf_icmp_ne h (fun h => ?_) (fun h => ?_)
      · refine lf_blk B_Ways_tryPairs_138 ?_
        refine lf_iinc (L := fun y5 => [.ref 3, .ref a1, .int c2, .int c3, .int y5]) h lf_c1 rfl rfl (fun _ => rfl) ?_
        intro y5 h
        refine lf_goto ?_
        exact mj_w_weak (ls := [.ref 3, .ref a1, .int c2, .int c3, .int y5]) (lf_rl (lf_rl (lf_rl (lf_rl (lf_rl (lf_r0)))))) (ih y5 s h)
      · refine lf_aload rfl ?_
        refine lf_getr (ci := 1) (k := 1) (lf_Beds_0 ha1) rfl (by decide) rfl ?_
        refine lf_iload rfl ?_
        refine lf_iald h (lf_Beds_1 ha1) ?_
        intro k6 h
        refine lf_aload rfl ?_
        refine lf_getr (ci := 1) (k := 1) (lf_Beds_0 ha1) rfl (by decide) rfl ?_
        refine lf_iload rfl ?_
        refine lf_iald h (lf_Beds_1 ha1) ?_
        intro k7 h
        refine lf_icmp_eq h (fun h => ?_) (fun h => ?_)
        · refine lf_blk B_Ways_tryPairs_138 ?_
          refine lf_iinc (L := fun y8 => [.ref 3, .ref a1, .int c2, .int c3, .int y8]) h lf_c1 rfl rfl (fun _ => rfl) ?_
          intro y8 h
          refine lf_goto ?_
          exact mj_w_weak (ls := [.ref 3, .ref a1, .int c2, .int c3, .int y8]) (lf_rl (lf_rl (lf_rl (lf_rl (lf_rl (lf_r0)))))) (ih y8 s h)
        · refine lf_aload rfl ?_
          refine lf_getr (ci := 8) (k := 3) lf_a3 rfl (by decide) rfl ?_
          refine lf_iload rfl ?_
          refine lf_iload rfl ?_
          refine lf_iast h lf_a6 ?_
          intro s10 h
          refine lf_aload rfl ?_
          refine lf_getr (ci := 8) (k := 3) lf_a3 rfl (by decide) rfl ?_
          refine lf_iload rfl ?_
          refine lf_iload rfl ?_
          refine lf_iast h lf_a6 ?_
          intro s12 h
          refine lf_aload rfl ?_
          refine lf_aload rfl ?_
          refine lf_iload rfl ?_
          refine lf_iconst lf_c1 ?_
          refine lf_iadd ?_
          refine lf_iload rfl ?_
          refine lf_aload rfl ?_
          refine lf_getr (ci := 1) (k := 3) (lf_Beds_0 ha1) rfl (by decide) rfl ?_
          refine lf_iload rfl ?_
          refine lf_iald h (lf_Beds_3 ha1) ?_
          intro k13 h
          refine lf_iadd ?_
          refine lf_aload rfl ?_
          refine lf_getr (ci := 1) (k := 3) (lf_Beds_0 ha1) rfl (by decide) rfl ?_
          refine lf_iload rfl ?_
          refine lf_iald h (lf_Beds_3 ha1) ?_
          intro k14 h
          refine lf_iadd ?_
          refine lf_callSWu (as := [.ref 3, .ref a1, .int (c2 + (1 : Int32)), .int ((c3 + (s12.1 (a1 + 3) k13)) + (s12.1 (a1 + 3) k14))]) (rest := []) h rfl rfl hd rfl rfl (fun p15 h9 => hq_Ways_tryPairs _ _ _ ha1 _ _ h9) ?_
          intro p15 h
          refine lf_aload rfl ?_
          refine lf_getr (ci := 8) (k := 3) lf_a3 rfl (by decide) rfl ?_
          refine lf_iload rfl ?_
          refine lf_iconst lf_cm1 ?_
          refine lf_iast h lf_a6 ?_
          intro s17 h
          refine lf_aload rfl ?_
          refine lf_getr (ci := 8) (k := 3) lf_a3 rfl (by decide) rfl ?_
          refine lf_iload rfl ?_
          refine lf_iconst lf_cm1 ?_
          refine lf_iast h lf_a6 ?_
          intro s19 h
          refine lf_end ?_
          refine lf_blk B_Ways_tryPairs_138 ?_
          refine lf_iinc (L := fun y20 => [.ref 3, .ref a1, .int c2, .int c3, .int y20]) h lf_c1 rfl rfl (fun _ => rfl) ?_
          intro y20 h
          refine lf_goto ?_
          exact mj_w_weak (ls := [.ref 3, .ref a1, .int c2, .int c3, .int y20]) (lf_rl (lf_rl (lf_rl (lf_rl (lf_rl (lf_r0)))))) (ih y20 s19 h)
theorem sb_Ways_tryPairs {sc : Nat × (Nat → Int32)} {E : Nat} {q_Ways_tryPairs : Nat → Int32 → Int32 → lf_S → Option (lf_S)} (hE : 1 ≤ E) (hq_Ways_tryPairs : ∀ (a1 : Nat) (x2 : Int32) (x3 : Int32) (ha1 : lf_Beds a1) (s : lf_S) (p : lf_S), q_Ways_tryPairs a1 x2 x3 s = some p → lf_ok sc E j_Ways_tryPairs [.ref 3, .ref a1, .int x2, .int x3] s (none) p) {a1 : Nat} {x2 : Int32} {x3 : Int32} (ha1 : lf_Beds a1) {s : lf_S} {p : lf_S} (h : fb_Ways_tryPairs q_Ways_tryPairs a1 x2 x3 s = some p) : lf_ok sc (E + 1) j_Ways_tryPairs [.ref 3, .ref a1, .int x2, .int x3] s (none) p := by
  refine lf_in (D := E) (ls := [.ref 3, .ref a1, .int x2, .int x3, mj_U]) rfl (lf_zi (by decide +kernel)) rfl ?_
  intro d hd cl rc rs
  unfold fb_Ways_tryPairs at h
  refine lf_blk B_Ways_tryPairs_0 ?_
  refine lf_iload rfl ?_
  refine lf_aload rfl ?_
  refine lf_getf (ci := 1) (k := 0) (lf_Beds_0 ha1) rfl (by decide) rfl ?_
  refine lf_icmp_lt h (fun h => ?_) (fun h => ?_)
  · refine lf_blk B_Ways_tryPairs_22 ?_
    refine lf_aload rfl ?_
    refine lf_aload rfl ?_
    refine lf_iload rfl ?_
    refine lf_iconst lf_c1 ?_
    refine lf_iadd ?_
    refine lf_iload rfl ?_
    refine lf_callSWu (as := [.ref 3, .ref a1, .int (x2 + (1 : Int32)), .int x3]) (rest := []) h rfl rfl hd rfl rfl (fun p1 h9 => hq_Ways_tryPairs _ _ _ ha1 _ _ h9) ?_
    intro p1 h
    refine lf_aload rfl ?_
    refine lf_getr (ci := 8) (k := 3) lf_a3 rfl (by decide) rfl ?_
    refine lf_iload rfl ?_
    refine lf_iald h lf_a6 ?_
    intro k2 h
    refine lf_iconst lf_cm1 ?_
    refine lf_icmp_eq h (fun h => ?_) (fun h => ?_)
    · refine lf_blk B_Ways_tryPairs_42 ?_
      refine lf_iload rfl ?_
      refine lf_iconst lf_c1 ?_
      refine lf_iadd ?_
      refine lf_istore (L := fun y3 => [.ref 3, .ref a1, .int x2, .int x3, .int y3]) h rfl rfl (fun _ => rfl) ?_
      intro y3 h
      refine lf_end ?_
      refine lf_loop h (fun p21 hp21 h => ?_)
      refine mj_w_weak (ls := [.ref 3, .ref a1, .int x2, .int x3, .int y3]) (lf_rl (lf_rl (lf_rl (lf_rl (lf_rl (lf_r0)))))) ?_
      refine s_Ways_tryPairs_47 hE hq_Ways_tryPairs ha1 hd ?_ 5000 y3 p1 hp21
      refine lf_blk B_Ways_tryPairs_144 ?_
      cases h
      exact lf_ret ⟨rfl, rfl, rfl⟩
    · cases h
      exact lf_ret ⟨rfl, rfl, rfl⟩
  · refine lf_iload rfl ?_
    refine lf_aload rfl ?_
    refine lf_getf (ci := 8) (k := 5) lf_a3 rfl (by decide) rfl ?_
    refine lf_icmp_le h (fun h => ?_) (fun h => ?_)
    · refine lf_blk B_Ways_tryPairs_21 ?_
      cases h
      exact lf_ret ⟨rfl, rfl, rfl⟩
    · refine lf_aload rfl ?_
      refine lf_iload rfl ?_
      refine lf_callVWu (as := [.int x3]) (rest := []) h rfl rfl lf_a3 rfl (Nat.le_trans (Nat.le_trans (by decide) hE) hd) rfl rfl (fun p22 h9 => s_Ways_keepTried h9) ?_
      intro p22 h
      refine lf_end ?_
      refine lf_blk B_Ways_tryPairs_21 ?_
      cases h
      exact lf_ret ⟨rfl, rfl, rfl⟩
theorem F_Ways_tryPairs_ok {sc : Nat × (Nat → Int32)} : ∀ (n : Nat), (∀ (a1 : Nat) (x2 : Int32) (x3 : Int32) (ha1 : lf_Beds a1) (s : lf_S) (p : lf_S), (F_Ways_tryPairs n) a1 x2 x3 s = some p → lf_ok sc (1 + n) j_Ways_tryPairs [.ref 3, .ref a1, .int x2, .int x3] s (none) p) := by
  intro n
  induction n with
  | zero => exact fun _ _ _ _ s p h => absurd h (fun q => by cases q)
  | succ n ih => exact fun a1 x2 x3 ha1 s p h => sb_Ways_tryPairs (Nat.le_add_right _ _) ih ha1 h
theorem s_Ways_tryPairs {sc : Nat × (Nat → Int32)} {a1 : Nat} {x2 : Int32} {x3 : Int32} (ha1 : lf_Beds a1) {s : lf_S} {p : lf_S} (h : f_Ways_tryPairs a1 x2 x3 s = some p) : lf_ok sc 65 j_Ways_tryPairs [.ref 3, .ref a1, .int x2, .int x3] s (none) p := (F_Ways_tryPairs_ok 64) a1 x2 x3 ha1 s p h
theorem s_Ways_bestPairs {sc : Nat × (Nat → Int32)} {a1 : Nat} (ha1 : lf_Beds a1) {s : lf_S} {p : Int32 × lf_S} (h : f_Ways_bestPairs a1 s = some p) : lf_ok sc 66 j_Ways_bestPairs [.ref 3, .ref a1] s (some (.int p.1)) p.2 := by
  refine lf_in (D := 65) (ls := [.ref 3, .ref a1]) rfl (lf_zi (by decide +kernel)) rfl ?_
  intro d hd cl rc rs
  unfold f_Ways_bestPairs at h
  refine lf_blk B_Ways_bestPairs_0 ?_
  refine lf_aload rfl ?_
  refine lf_callVWu (as := []) (rest := []) h rfl rfl lf_a3 rfl (Nat.le_trans (by decide) hd) rfl rfl (fun p1 h9 => s_Ways_beginTrying h9) ?_
  intro p1 h
  refine lf_aload rfl ?_
  refine lf_aload rfl ?_
  refine lf_iconst lf_c0 ?_
  refine lf_iconst lf_c0 ?_
  refine lf_callSWu (as := [.ref 3, .ref a1, .int (0 : Int32), .int (0 : Int32)]) (rest := []) h rfl rfl (Nat.le_trans (by decide) hd) rfl rfl (fun p2 h9 => s_Ways_tryPairs ha1 h9) ?_
  intro p2 h
  refine lf_aload rfl ?_
  refine lf_getf (ci := 8) (k := 5) lf_a3 rfl (by decide) rfl ?_
  cases h
  exact lf_iret ⟨rfl, rfl, rfl⟩
theorem s_Main_pairs {sc : Nat × (Nat → Int32)} {x1 : Int32} {s : lf_S} {p : (Nat ⊕ Int32) × lf_S} (h : f_Main_pairs x1 s = some p) : lf_th sc 67 j_Main_pairs [.ref 0, .int x1] s lf_vi p := by
  refine lf_inT (D := 66) (ls := [.ref 0, .int x1, mj_U]) rfl (lf_zti (by decide +kernel)) rfl ?_
  intro d hd cl
  unfold f_Main_pairs at h
  refine lf_blk B_Main_pairs_0 ?_
  refine lf_iload rfl ?_
  refine lf_iconst lf_cm1 ?_
  refine lf_icmp_eq h (fun h => ?_) (fun h => ?_)
  · refine lf_blk B_Main_pairs_10 ?_
    refine lf_aload rfl ?_
    refine lf_getr (ci := 9) (k := 1) lf_a0 rfl (by decide) rfl ?_
    refine lf_aload rfl ?_
    refine lf_getr (ci := 9) (k := 2) lf_a0 rfl (by decide) rfl ?_
    refine lf_getr (ci := 3) (k := 0) (lf_Holt_0 lf_Holt_at10) rfl (by decide) rfl ?_
    refine lf_callVWi (as := [.ref (10 + 1)]) (rest := []) h rfl rfl lf_a3 rfl (Nat.le_trans (by decide) hd) rfl rfl (fun p1 h9 => s_Ways_bestPairs (lf_Holt_1 lf_Holt_at10) h9) ?_
    intro p1 h
    refine lf_istore (L := fun y2 => [.ref 0, .int x1, .int y2]) h rfl rfl (fun _ => rfl) ?_
    intro y2 h
    refine lf_iload rfl ?_
    refine lf_iconst lf_cm1 ?_
    refine lf_icmp_ne h (fun h => ?_) (fun h => ?_)
    · refine lf_blk B_Main_pairs_34 ?_
      refine lf_aload rfl ?_
      refine lf_getr (ci := 9) (k := 1) lf_a0 rfl (by decide) rfl ?_
      refine lf_getr (ci := 8) (k := 2) lf_a3 rfl (by decide) rfl ?_
      refine lf_iload rfl ?_
      refine lf_iald h lf_a5 ?_
      intro k3 h
      refine lf_end ?_
      refine lf_blk B_Main_pairs_43 ?_
      cases h
      exact lf_iret ⟨rfl, rfl, rfl⟩
    · refine lf_iload rfl ?_
      refine lf_goto ?_
      refine lf_blk B_Main_pairs_43 ?_
      cases h
      exact lf_iret ⟨rfl, rfl, rfl⟩
  · refine lf_aload rfl ?_
    refine lf_iload rfl ?_
    refine lf_callVTu (as := [.int x1]) (rest := []) h rfl rfl lf_a0 rfl (Nat.le_trans (by decide) hd) rfl rfl (by decide +kernel) (fun p h9 => s_Main_needBed h9) ?_
    intro v4 s5 h
    refine lf_end ?_
    refine lf_blk B_Main_pairs_10 ?_
    refine lf_aload rfl ?_
    refine lf_getr (ci := 9) (k := 1) lf_a0 rfl (by decide) rfl ?_
    refine lf_aload rfl ?_
    refine lf_getr (ci := 9) (k := 2) lf_a0 rfl (by decide) rfl ?_
    refine lf_getr (ci := 3) (k := 0) (lf_Holt_0 lf_Holt_at10) rfl (by decide) rfl ?_
    refine lf_callVWi (as := [.ref (10 + 1)]) (rest := []) h rfl rfl lf_a3 rfl (Nat.le_trans (by decide) hd) rfl rfl (fun p6 h9 => s_Ways_bestPairs (lf_Holt_1 lf_Holt_at10) h9) ?_
    intro p6 h
    refine lf_istore (L := fun y7 => [.ref 0, .int x1, .int y7]) h rfl rfl (fun _ => rfl) ?_
    intro y7 h
    refine lf_iload rfl ?_
    refine lf_iconst lf_cm1 ?_
    refine lf_icmp_ne h (fun h => ?_) (fun h => ?_)
    · refine lf_blk B_Main_pairs_34 ?_
      refine lf_aload rfl ?_
      refine lf_getr (ci := 9) (k := 1) lf_a0 rfl (by decide) rfl ?_
      refine lf_getr (ci := 8) (k := 2) lf_a3 rfl (by decide) rfl ?_
      refine lf_iload rfl ?_
      refine lf_iald h lf_a5 ?_
      intro k8 h
      refine lf_end ?_
      refine lf_blk B_Main_pairs_43 ?_
      cases h
      exact lf_iret ⟨rfl, rfl, rfl⟩
    · refine lf_iload rfl ?_
      refine lf_goto ?_
      refine lf_blk B_Main_pairs_43 ?_
      cases h
      exact lf_iret ⟨rfl, rfl, rfl⟩
theorem s_Main_change {sc : Nat × (Nat → Int32)} {x1 : Int32} {x2 : Int32} {s : lf_S} {p : (Nat ⊕ Int32) × lf_S} (h : f_Main_change x1 x2 s = some p) : lf_th sc 3 j_Main_change [.ref 0, .int x1, .int x2] s lf_vi p := by
  refine lf_inT (D := 2) (ls := [.ref 0, .int x1, .int x2]) rfl (lf_zti (by decide +kernel)) rfl ?_
  intro d hd cl
  unfold f_Main_change at h
  refine lf_blk B_Main_change_0 ?_
  refine lf_aload rfl ?_
  refine lf_iload rfl ?_
  refine lf_callVTu (as := [.int x1]) (rest := []) h rfl rfl lf_a0 rfl (Nat.le_trans (by decide) hd) rfl rfl (by decide +kernel) (fun p h9 => s_Main_needBasket h9) ?_
  intro v1 s2 h
  refine lf_aload rfl ?_
  refine lf_iload rfl ?_
  refine lf_callVTu (as := [.int x2]) (rest := []) h rfl rfl lf_a0 rfl (Nat.le_trans (by decide) hd) rfl rfl (by decide +kernel) (fun p h9 => s_Main_needBasket h9) ?_
  intro v3 s4 h
  refine lf_aload rfl ?_
  refine lf_getr (ci := 9) (k := 1) lf_a0 rfl (by decide) rfl ?_
  refine lf_aload rfl ?_
  refine lf_getr (ci := 9) (k := 2) lf_a0 rfl (by decide) rfl ?_
  refine lf_getr (ci := 3) (k := 1) (lf_Holt_0 lf_Holt_at10) rfl (by decide) rfl ?_
  refine lf_iload rfl ?_
  refine lf_iload rfl ?_
  refine lf_callVWi (as := [.ref (10 + 6), .int x1, .int x2]) (rest := []) h rfl rfl lf_a3 rfl (Nat.le_trans (by decide) hd) rfl rfl (fun p5 h9 => s_Ways_steps (lf_Holt_6 lf_Holt_at10) h9) ?_
  intro p5 h
  cases h
  exact lf_iret ⟨rfl, rfl, rfl⟩
theorem s_Main_share {sc : Nat × (Nat → Int32)} {x1 : Int32} {x2 : Int32} {s : lf_S} {p : (Nat ⊕ Int32) × lf_S} (h : f_Main_share x1 x2 s = some p) : lf_th sc 3 j_Main_share [.ref 0, .int x1, .int x2] s lf_vi p := by
  refine lf_inT (D := 2) (ls := [.ref 0, .int x1, .int x2]) rfl (lf_zti (by decide +kernel)) rfl ?_
  intro d hd cl
  unfold f_Main_share at h
  refine lf_blk B_Main_share_0 ?_
  refine lf_aload rfl ?_
  refine lf_iload rfl ?_
  refine lf_callVTu (as := [.int x1]) (rest := []) h rfl rfl lf_a0 rfl (Nat.le_trans (by decide) hd) rfl rfl (by decide +kernel) (fun p h9 => s_Main_needHand h9) ?_
  intro v1 s2 h
  refine lf_iload rfl ?_
  refine lf_iconst lf_c0 ?_
  refine lf_iconst lf_c99 ?_
  refine lf_callSTu (as := [.int x2, .int (0 : Int32), .int (99 : Int32)]) (rest := []) h rfl rfl (Nat.le_trans (by decide) hd) rfl rfl (by decide +kernel) (fun p h9 => s_Main_needWithin h9) ?_
  intro v3 s4 h
  refine lf_aload rfl ?_
  refine lf_getr (ci := 9) (k := 1) lf_a0 rfl (by decide) rfl ?_
  refine lf_aload rfl ?_
  refine lf_getr (ci := 9) (k := 2) lf_a0 rfl (by decide) rfl ?_
  refine lf_getr (ci := 3) (k := 2) (lf_Holt_0 lf_Holt_at10) rfl (by decide) rfl ?_
  refine lf_iload rfl ?_
  refine lf_callVWu (as := [.ref (10 + 15), .int x2]) (rest := []) h rfl rfl lf_a3 rfl (Nat.le_trans (by decide) hd) rfl rfl (fun p5 h9 => s_Ways_giveBundles (lf_Holt_15 lf_Holt_at10) h9) ?_
  intro p5 h
  refine lf_aload rfl ?_
  refine lf_getr (ci := 9) (k := 1) lf_a0 rfl (by decide) rfl ?_
  refine lf_getr (ci := 8) (k := 4) lf_a3 rfl (by decide) rfl ?_
  refine lf_iload rfl ?_
  refine lf_iald h lf_a7 ?_
  intro k6 h
  cases h
  exact lf_iret ⟨rfl, rfl, rfl⟩
theorem s_Main_price {sc : Nat × (Nat → Int32)} {x1 : Int32} {s : lf_S} {p : (Nat ⊕ Int32) × lf_S} (h : f_Main_price x1 s = some p) : lf_th sc 3 j_Main_price [.ref 0, .int x1] s lf_vi p := by
  refine lf_inT (D := 2) (ls := [.ref 0, .int x1]) rfl (lf_zti (by decide +kernel)) rfl ?_
  intro d hd cl
  unfold f_Main_price at h
  refine lf_blk B_Main_price_0 ?_
  refine lf_iload rfl ?_
  refine lf_callSTu (as := [.int x1]) (rest := []) h rfl rfl (Nat.le_trans (by decide) hd) rfl rfl (by decide +kernel) (fun p h9 => s_Main_needFeet h9) ?_
  intro v1 s2 h
  refine lf_aload rfl ?_
  refine lf_getr (ci := 9) (k := 2) lf_a0 rfl (by decide) rfl ?_
  refine lf_getr (ci := 3) (k := 1) (lf_Holt_0 lf_Holt_at10) rfl (by decide) rfl ?_
  refine lf_iload rfl ?_
  refine lf_callVRi (as := [.int x1]) (rest := []) h rfl rfl (lf_Baskets_0 (lf_Holt_6 lf_Holt_at10)) rfl (Nat.le_trans (by decide) hd) rfl rfl (fun p3 h9 => s_Baskets_bestPrice (lf_Holt_6 lf_Holt_at10) h9) ?_
  intro p3 h
  cases h
  exact lf_iret ⟨rfl, rfl, rfl⟩
theorem s_Main_rests {sc : Nat × (Nat → Int32)} {x1 : Int32} {s : lf_S} {p : (Nat ⊕ Int32) × lf_S} (h : f_Main_rests x1 s = some p) : lf_th sc 6 j_Main_rests [.ref 0, .int x1] s lf_vi p := by
  refine lf_inT (D := 5) (ls := [.ref 0, .int x1, mj_U, mj_U, mj_U]) rfl (lf_zti (by decide +kernel)) rfl ?_
  intro d hd cl
  unfold f_Main_rests at h
  refine lf_blk B_Main_rests_0 ?_
  refine lf_aload rfl ?_
  refine lf_iload rfl ?_
  refine lf_callVTu (as := [.int x1]) (rest := []) h rfl rfl lf_a0 rfl (Nat.le_trans (by decide) hd) rfl rfl (by decide +kernel) (fun p h9 => s_Main_needBed h9) ?_
  intro v1 s2 h
  refine lf_aload rfl ?_
  refine lf_getr (ci := 9) (k := 3) lf_a0 rfl (by decide) rfl ?_
  refine lf_aload rfl ?_
  refine lf_getr (ci := 9) (k := 2) lf_a0 rfl (by decide) rfl ?_
  refine lf_iload rfl ?_
  refine lf_callVWi (as := [.ref 10, .int x1]) (rest := []) h rfl rfl (lf_Law_0 lf_Law_at34) rfl (Nat.le_trans (by decide) hd) rfl rfl (fun p3 h9 => s_Law_reachOf lf_Law_at34 lf_Holt_at10 h9) ?_
  intro p3 h
  refine lf_istore (L := fun y4 => [.ref 0, .int x1, .int y4, mj_U, mj_U]) h rfl rfl (fun _ => rfl) ?_
  intro y4 h
  refine lf_iconst lf_c0 ?_
  refine lf_aload rfl ?_
  refine lf_getr (ci := 9) (k := 2) lf_a0 rfl (by decide) rfl ?_
  refine lf_getr (ci := 3) (k := 0) (lf_Holt_0 lf_Holt_at10) rfl (by decide) rfl ?_
  refine lf_getr (ci := 1) (k := 4) (lf_Beds_0 (lf_Holt_1 lf_Holt_at10)) rfl (by decide) rfl ?_
  refine lf_iload rfl ?_
  refine lf_iald h (lf_Beds_4 (lf_Holt_1 lf_Holt_at10)) ?_
  intro k5 h
  refine lf_isub ?_
  refine lf_istore (L := fun y6 => [.ref 0, .int x1, .int y4, .int y6, mj_U]) h rfl rfl (fun _ => rfl) ?_
  intro y6 h
  refine lf_aload rfl ?_
  refine lf_getr (ci := 9) (k := 2) lf_a0 rfl (by decide) rfl ?_
  refine lf_getr (ci := 3) (k := 0) (lf_Holt_0 lf_Holt_at10) rfl (by decide) rfl ?_
  refine lf_getr (ci := 1) (k := 2) (lf_Beds_0 (lf_Holt_1 lf_Holt_at10)) rfl (by decide) rfl ?_
  refine lf_iload rfl ?_
  refine lf_iald h (lf_Beds_2 (lf_Holt_1 lf_Holt_at10)) ?_
  intro k7 h
  refine lf_istore (L := fun y8 => [.ref 0, .int x1, .int y4, .int y6, .int y8]) h rfl rfl (fun _ => rfl) ?_
  intro y8 h
  refine lf_iconst lf_c0 ?_
  refine lf_iload rfl ?_
  refine lf_iload rfl ?_
  refine lf_iconst lf_c1 ?_
  refine lf_iconst lf_c0 ?_
  refine lf_callSRi (as := [.int (0 : Int32), .int y4, .int y6, .int (1 : Int32), .int (0 : Int32)]) (rest := []) h rfl rfl (Nat.le_trans (by decide) hd) rfl rfl (fun p9 h9 => s_Main_restBit h9) ?_
  intro p9 h
  refine lf_iconst lf_c1 ?_
  refine lf_iload rfl ?_
  refine lf_iconst lf_c2 ?_
  refine lf_iadd ?_
  refine lf_iload rfl ?_
  refine lf_iconst lf_c0 ?_
  refine lf_iconst lf_c1 ?_
  refine lf_callSRi (as := [.int (1 : Int32), .int (y4 + (2 : Int32)), .int y8, .int (0 : Int32), .int (1 : Int32)]) (rest := [.int p9]) h rfl rfl (Nat.le_trans (by decide) hd) rfl rfl (fun p10 h9 => s_Main_restBit h9) ?_
  intro p10 h
  refine lf_ior ?_
  refine lf_iconst lf_c2 ?_
  refine lf_iload rfl ?_
  refine lf_iload rfl ?_
  refine lf_iconst lf_c3 ?_
  refine lf_iconst lf_c2 ?_
  refine lf_callSRi (as := [.int (2 : Int32), .int y6, .int y4, .int (3 : Int32), .int (2 : Int32)]) (rest := [.int (p9 ||| p10)]) h rfl rfl (Nat.le_trans (by decide) hd) rfl rfl (fun p11 h9 => s_Main_restBit h9) ?_
  intro p11 h
  refine lf_ior ?_
  refine lf_iconst lf_c3 ?_
  refine lf_iload rfl ?_
  refine lf_iload rfl ?_
  refine lf_iconst lf_c2 ?_
  refine lf_iadd ?_
  refine lf_iconst lf_c2 ?_
  refine lf_iconst lf_c3 ?_
  refine lf_callSRi (as := [.int (3 : Int32), .int y8, .int (y4 + (2 : Int32)), .int (2 : Int32), .int (3 : Int32)]) (rest := [.int ((p9 ||| p10) ||| p11)]) h rfl rfl (Nat.le_trans (by decide) hd) rfl rfl (fun p12 h9 => s_Main_restBit h9) ?_
  intro p12 h
  refine lf_ior ?_
  cases h
  exact lf_iret ⟨rfl, rfl, rfl⟩
theorem s_Main_odds_17 {sc : Nat × (Nat → Int32)} {d : Nat} {Q : mj_Q} {cl : Bool} {rc rs : Nat} {c1 : Int32} {c2 : Int32} {p : Int64 × lf_S} (hd : 1 ≤ d) (hk : ∀ (u5 : Value), lf_wp sc d j_Main_odds Q 50 [mj_U, .int c1, mj_U, .long p.1, mj_U, u5, mj_U, mj_U] [] (lf_hp p.2) cl rc rs) : ∀ (n : Nat) (v3 : Int64) (v5 : Int32) (s : lf_S), f_Main_odds_17 c1 c2 n v3 v5 s = some p → lf_wp sc d j_Main_odds Q 17 [.ref 0, .int c1, .int c2, .long v3, mj_U, .int v5, mj_U, mj_U] [] (lf_hp s) cl rc rs := by
  intro n
  induction n with
  | zero =>
    intro v3 v5 s h
    exact absurd h (fun z => by cases z)
  | succ n ih =>
    intro v3 v5 s h
    unfold f_Main_odds_17 at h
    refine lf_blk B_Main_odds_17 ?_
    refine lf_iload rfl ?_
    refine lf_iconst lf_c1 ?_
    refine lf_iload rfl ?_
    refine lf_ishl ?_
    refine lf_icmp_ge h (fun h => ?_) (fun h => ?_)
    · rw [← Option.some.inj h] at hk
      exact mj_w_weak (ls := [mj_U, .int c1, mj_U, .long v3, mj_U, .int v5, mj_U, mj_U]) (lf_rr (lf_rl (lf_ri (lf_rl (lf_rl (lf_rl (lf_rl (lf_rl (lf_r0))))))))) (hk _)
    · refine lf_iload rfl ?_
      refine lf_callSRi (as := [.int v5]) (rest := []) h rfl rfl (Nat.le_trans (by decide) hd) rfl rfl (fun p7 h9 => s_JInt_bitCount h9) ?_
      intro p7 h
      refine lf_iload rfl ?_
      refine lf_icmp_lt h (fun h => ?_) (fun h => ?_)
      · refine lf_blk B_Main_odds_44 ?_
        refine lf_iinc (L := fun y8 => [.ref 0, .int c1, .int c2, .long v3, mj_U, .int y8, mj_U, mj_U]) h lf_c1 rfl rfl (fun _ => rfl) ?_
        intro y8 h
        refine lf_goto ?_
        exact mj_w_weak (ls := [.ref 0, .int c1, .int c2, .long v3, mj_U, .int y8, mj_U, mj_U]) (lf_rl (lf_rl (lf_rl (lf_rl (lf_rl (lf_rl (lf_rl (lf_rl (lf_r0))))))))) (ih v3 y8 s h)
      · refine lf_lload rfl ?_
        refine lf_aload rfl ?_
        refine lf_iload rfl ?_
        refine lf_iload rfl ?_
        refine lf_callVRl (as := [.int v5, .int c1]) (rest := [.long v3]) h rfl rfl lf_a0 rfl (Nat.le_trans (by decide) hd) rfl rfl (fun p9 h9 => s_Main_chanceOf h9) ?_
        intro p9 h
        refine lf_ladd ?_
        refine lf_lstore (L := fun l10 => [.ref 0, .int c1, .int c2, .long l10, mj_U, .int v5, mj_U, mj_U]) h rfl rfl (fun _ => rfl) ?_
        intro l10 h
        refine lf_end ?_
        refine lf_blk B_Main_odds_44 ?_
        refine lf_iinc (L := fun y11 => [.ref 0, .int c1, .int c2, .long l10, mj_U, .int y11, mj_U, mj_U]) h lf_c1 rfl rfl (fun _ => rfl) ?_
        intro y11 h
        refine lf_goto ?_
        exact mj_w_weak (ls := [.ref 0, .int c1, .int c2, .long l10, mj_U, .int y11, mj_U, mj_U]) (lf_rl (lf_rl (lf_rl (lf_rl (lf_rl (lf_rl (lf_rl (lf_rl (lf_r0))))))))) (ih l10 y11 s h)
theorem s_Main_odds_56 {sc : Nat × (Nat → Int32)} {d : Nat} {Q : mj_Q} {cl : Bool} {rc rs : Nat} {c1 : Int32} {c3 : Int64} {p : Int64 × lf_S} (hd : 0 ≤ d) (hk : lf_wp sc d j_Main_odds Q 76 [mj_U, mj_U, mj_U, .long c3, mj_U, .long p.1, mj_U, mj_U] [] (lf_hp p.2) cl rc rs) : ∀ (n : Nat) (v5 : Int64) (v7 : Int32) (s : lf_S), f_Main_odds_56 c1 c3 n v5 v7 s = some p → lf_wp sc d j_Main_odds Q 56 [mj_U, .int c1, mj_U, .long c3, mj_U, .long v5, mj_U, .int v7] [] (lf_hp s) cl rc rs := by
  intro n
  induction n with
  | zero =>
    intro v5 v7 s h
    exact absurd h (fun z => by cases z)
  | succ n ih =>
    intro v5 v7 s h
    unfold f_Main_odds_56 at h
    refine lf_blk B_Main_odds_56 ?_
    refine lf_iload rfl ?_
    refine lf_iload rfl ?_
    refine lf_icmp_ge h (fun h => ?_) (fun h => ?_)
    · rw [← Option.some.inj h] at hk
      exact mj_w_weak (ls := [mj_U, mj_U, mj_U, .long c3, mj_U, .long v5, mj_U, mj_U]) (lf_rl (lf_ri (lf_rl (lf_rl (lf_rl (lf_rl (lf_rl (lf_ri (lf_r0))))))))) hk
    · refine lf_lload rfl ?_
      refine lf_lconst (x := (100 : Int64)) (by decide +kernel) ?_
      refine lf_lmul ?_
      refine lf_lstore (L := fun l16 => [mj_U, .int c1, mj_U, .long c3, mj_U, .long l16, mj_U, .int v7]) h rfl rfl (fun _ => rfl) ?_
      intro l16 h
      refine lf_iinc (L := fun y17 => [mj_U, .int c1, mj_U, .long c3, mj_U, .long l16, mj_U, .int y17]) h lf_c1 rfl rfl (fun _ => rfl) ?_
      intro y17 h
      refine lf_goto ?_
      exact mj_w_weak (ls := [mj_U, .int c1, mj_U, .long c3, mj_U, .long l16, mj_U, .int y17]) (lf_rl (lf_rl (lf_rl (lf_rl (lf_rl (lf_rl (lf_rl (lf_rl (lf_r0))))))))) (ih l16 y17 s h)
theorem s_Main_odds {sc : Nat × (Nat → Int32)} {x1 : Int32} {x2 : Int32} {s : lf_S} {p : (Nat ⊕ Int32) × lf_S} (h : f_Main_odds x1 x2 s = some p) : lf_th sc 2 j_Main_odds [.ref 0, .int x1, .int x2] s lf_vi p := by
  refine lf_inT (D := 1) (ls := [.ref 0, .int x1, .int x2, mj_U, mj_U, mj_U, mj_U, mj_U]) rfl (lf_zti (by decide +kernel)) rfl ?_
  intro d hd cl
  unfold f_Main_odds at h
  refine lf_blk B_Main_odds_0 ?_
  refine lf_iload rfl ?_
  refine lf_iconst lf_c0 ?_
  refine lf_iconst lf_c5 ?_
  refine lf_callSTu (as := [.int x1, .int (0 : Int32), .int (5 : Int32)]) (rest := []) h rfl rfl (Nat.le_trans (by decide) hd) rfl rfl (by decide +kernel) (fun p h9 => s_Main_needWithin h9) ?_
  intro v1 s2 h
  refine lf_iload rfl ?_
  refine lf_iconst lf_c0 ?_
  refine lf_iconst lf_c5 ?_
  refine lf_callSTu (as := [.int x2, .int (0 : Int32), .int (5 : Int32)]) (rest := []) h rfl rfl (Nat.le_trans (by decide) hd) rfl rfl (by decide +kernel) (fun p h9 => s_Main_needWithin h9) ?_
  intro v3 s4 h
  refine lf_lconst (x := (0 : Int64)) (by decide +kernel) ?_
  refine lf_lstore (L := fun l5 => [.ref 0, .int x1, .int x2, .long l5, mj_U, mj_U, mj_U, mj_U]) h rfl rfl (fun _ => rfl) ?_
  intro l5 h
  refine lf_iconst lf_c0 ?_
  refine lf_istore (L := fun y6 => [.ref 0, .int x1, .int x2, .long l5, mj_U, .int y6, mj_U, mj_U]) h rfl rfl (fun _ => rfl) ?_
  intro y6 h
  refine lf_end ?_
  refine lf_loop h (fun p12 hp12 h => ?_)
  refine mj_w_weak (ls := [.ref 0, .int x1, .int x2, .long l5, mj_U, .int y6, mj_U, mj_U]) (lf_rl (lf_rl (lf_rl (lf_rl (lf_rl (lf_rl (lf_rl (lf_rl (lf_r0))))))))) ?_
  refine s_Main_odds_17 (Nat.le_trans (by decide) hd) ?_ 5000 l5 y6 s4 hp12
  intro u13
  refine lf_blk B_Main_odds_50 ?_
  refine lf_lconst (x := (1 : Int64)) (by decide +kernel) ?_
  refine lf_lstore (L := fun l14 => [mj_U, .int x1, mj_U, .long p12.1, mj_U, .long l14, mj_U, mj_U]) h rfl rfl (fun _ => rfl) ?_
  intro l14 h
  refine lf_iconst lf_c0 ?_
  refine lf_istore (L := fun y15 => [mj_U, .int x1, mj_U, .long p12.1, mj_U, .long l14, mj_U, .int y15]) h rfl rfl (fun _ => rfl) ?_
  intro y15 h
  refine lf_end ?_
  refine lf_loop h (fun p18 hp18 h => ?_)
  refine mj_w_weak (ls := [mj_U, .int x1, mj_U, .long p12.1, mj_U, .long l14, mj_U, .int y15]) (lf_rl (lf_rl (lf_rl (lf_rl (lf_rl (lf_rl (lf_rl (lf_rl (lf_r0))))))))) ?_
  refine s_Main_odds_56 (Nat.le_trans (by decide) hd) ?_ 5000 l14 y15 p12.2 hp18
  refine lf_blk B_Main_odds_76 ?_
  refine lf_lload rfl ?_
  refine lf_lconst (x := (10000 : Int64)) (by decide +kernel) ?_
  refine lf_lmul ?_
  refine lf_lload rfl ?_
  refine lf_ldivz h ?_
  intro h
  refine lf_l2i ?_
  cases h
  exact lf_iret ⟨rfl, rfl, rfl⟩
theorem s_Main_most {sc : Nat × (Nat → Int32)} {x1 : Int32} {s : lf_S} {p : (Nat ⊕ Int32) × lf_S} (h : f_Main_most x1 s = some p) : lf_th sc 2 j_Main_most [.ref 0, .int x1] s lf_vi p := by
  refine lf_inT (D := 1) (ls := [.ref 0, .int x1]) rfl (lf_zti (by decide +kernel)) rfl ?_
  intro d hd cl
  unfold f_Main_most at h
  refine lf_blk B_Main_most_0 ?_
  refine lf_iload rfl ?_
  refine lf_swv h ?_
  intro y1 h
  by_cases c0 : y1 = (0 : Int32)
  · rw [if_pos c0] at h
    subst c0
    refine ⟨_, _, rfl, fun c => absurd c (by decide +kernel), fun _ => ⟨_, rfl, ?_⟩⟩
    refine lf_blk B_Main_most_28 ?_
    refine lf_aload rfl ?_
    refine lf_getr (ci := 9) (k := 2) lf_a0 rfl (by decide) rfl ?_
    refine lf_getr (ci := 3) (k := 0) (lf_Holt_0 lf_Holt_at10) rfl (by decide) rfl ?_
    refine lf_getr (ci := 1) (k := 2) (lf_Beds_0 (lf_Holt_1 lf_Holt_at10)) rfl (by decide) rfl ?_
    refine lf_aload rfl ?_
    refine lf_getr (ci := 9) (k := 2) lf_a0 rfl (by decide) rfl ?_
    refine lf_getr (ci := 3) (k := 0) (lf_Holt_0 lf_Holt_at10) rfl (by decide) rfl ?_
    refine lf_getf (ci := 1) (k := 0) (lf_Beds_0 (lf_Holt_1 lf_Holt_at10)) rfl (by decide) rfl ?_
    refine lf_callSRi (as := [.ref ((10 + 1) + 2), .int (s.1 (10 + 1) 0)]) (rest := []) h rfl rfl (Nat.le_trans (by decide) hd) rfl rfl (fun p2 h9 => s_Main_firstGreatest (lf_Beds_2 (lf_Holt_1 lf_Holt_at10)) h9) ?_
    intro p2 h
    cases h
    exact lf_iret ⟨rfl, rfl, rfl⟩
  rw [if_neg c0] at h
  by_cases c1 : y1 = (1 : Int32)
  · rw [if_pos c1] at h
    subst c1
    refine ⟨_, _, rfl, fun c => absurd c (by decide +kernel), fun _ => ⟨_, rfl, ?_⟩⟩
    refine lf_blk B_Main_most_52 ?_
    refine lf_aload rfl ?_
    refine lf_getr (ci := 9) (k := 2) lf_a0 rfl (by decide) rfl ?_
    refine lf_getr (ci := 3) (k := 1) (lf_Holt_0 lf_Holt_at10) rfl (by decide) rfl ?_
    refine lf_getr (ci := 0) (k := 4) (lf_Baskets_0 (lf_Holt_6 lf_Holt_at10)) rfl (by decide) rfl ?_
    refine lf_aload rfl ?_
    refine lf_getr (ci := 9) (k := 2) lf_a0 rfl (by decide) rfl ?_
    refine lf_getr (ci := 3) (k := 1) (lf_Holt_0 lf_Holt_at10) rfl (by decide) rfl ?_
    refine lf_getf (ci := 0) (k := 0) (lf_Baskets_0 (lf_Holt_6 lf_Holt_at10)) rfl (by decide) rfl ?_
    refine lf_callSRi (as := [.ref ((10 + 6) + 4), .int (s.1 (10 + 6) 0)]) (rest := []) h rfl rfl (Nat.le_trans (by decide) hd) rfl rfl (fun p3 h9 => s_Main_firstGreatest (lf_Baskets_4 (lf_Holt_6 lf_Holt_at10)) h9) ?_
    intro p3 h
    cases h
    exact lf_iret ⟨rfl, rfl, rfl⟩
  rw [if_neg c1] at h
  by_cases c2 : y1 = (2 : Int32)
  · rw [if_pos c2] at h
    subst c2
    refine ⟨_, _, rfl, fun c => absurd c (by decide +kernel), fun _ => ⟨_, rfl, ?_⟩⟩
    refine lf_blk B_Main_most_76 ?_
    refine lf_aload rfl ?_
    refine lf_getr (ci := 9) (k := 2) lf_a0 rfl (by decide) rfl ?_
    refine lf_getr (ci := 3) (k := 2) (lf_Holt_0 lf_Holt_at10) rfl (by decide) rfl ?_
    refine lf_getr (ci := 2) (k := 1) (lf_Hands_0 (lf_Holt_15 lf_Holt_at10)) rfl (by decide) rfl ?_
    refine lf_aload rfl ?_
    refine lf_getr (ci := 9) (k := 2) lf_a0 rfl (by decide) rfl ?_
    refine lf_getr (ci := 3) (k := 2) (lf_Holt_0 lf_Holt_at10) rfl (by decide) rfl ?_
    refine lf_getf (ci := 2) (k := 0) (lf_Hands_0 (lf_Holt_15 lf_Holt_at10)) rfl (by decide) rfl ?_
    refine lf_callSRi (as := [.ref ((10 + 15) + 1), .int (s.1 (10 + 15) 0)]) (rest := []) h rfl rfl (Nat.le_trans (by decide) hd) rfl rfl (fun p4 h9 => s_Main_firstGreatest (lf_Hands_1 (lf_Holt_15 lf_Holt_at10)) h9) ?_
    intro p4 h
    cases h
    exact lf_iret ⟨rfl, rfl, rfl⟩
  rw [if_neg c2] at h
  refine ⟨_, _, rfl, fun _ => ?_, fun c => ?_⟩
  · refine lf_blk B_Main_most_100 ?_
    cases h
    exact lf_throw rfl
  · exfalso
    have d0 : y1.toInt ≠ 0 := fun e => c0 (Int32.toInt_inj.mp (e.trans (by decide +kernel)))
    have d1 : y1.toInt ≠ 1 := fun e => c1 (Int32.toInt_inj.mp (e.trans (by decide +kernel)))
    have d2 : y1.toInt ≠ 2 := fun e => c2 (Int32.toInt_inj.mp (e.trans (by decide +kernel)))
    omega
theorem s_Main_sort {sc : Nat × (Nat → Int32)} {x1 : Int32} {s : lf_S} {p : (Nat ⊕ Int32) × lf_S} (h : f_Main_sort x1 s = some p) : lf_th sc 2 j_Main_sort [.ref 0, .int x1] s lf_vi p := by
  refine lf_inT (D := 1) (ls := [.ref 0, .int x1]) rfl (lf_zti (by decide +kernel)) rfl ?_
  intro d hd cl
  unfold f_Main_sort at h
  refine lf_blk B_Main_sort_0 ?_
  refine lf_iload rfl ?_
  refine lf_iconst lf_c0 ?_
  refine lf_iconst lf_c2 ?_
  refine lf_callSTu (as := [.int x1, .int (0 : Int32), .int (2 : Int32)]) (rest := []) h rfl rfl (Nat.le_trans (by decide) hd) rfl rfl (by decide +kernel) (fun p h9 => s_Main_needIndex h9) ?_
  intro v1 s2 h
  refine lf_aload rfl ?_
  refine lf_getr (ci := 9) (k := 2) lf_a0 rfl (by decide) rfl ?_
  refine lf_getr (ci := 3) (k := 0) (lf_Holt_0 lf_Holt_at10) rfl (by decide) rfl ?_
  refine lf_iload rfl ?_
  refine lf_callVRi (as := [.int x1]) (rest := []) h rfl rfl (lf_Beds_0 (lf_Holt_1 lf_Holt_at10)) rfl (Nat.le_trans (by decide) hd) rfl rfl (fun p3 h9 => s_Beds_ofSort (lf_Holt_1 lf_Holt_at10) h9) ?_
  intro p3 h
  cases h
  exact lf_iret ⟨rfl, rfl, rfl⟩
theorem s_Main_ahead {sc : Nat × (Nat → Int32)} {x1 : Int32} {x2 : Int32} {x3 : Int32} {s : lf_S} {p : (Nat ⊕ Int32) × lf_S} (h : f_Main_ahead x1 x2 x3 s = some p) : lf_th sc 3 j_Main_ahead [.ref 0, .int x1, .int x2, .int x3] s lf_vi p := by
  refine lf_inT (D := 2) (ls := [.ref 0, .int x1, .int x2, .int x3]) rfl (lf_zti (by decide +kernel)) rfl ?_
  intro d hd cl
  unfold f_Main_ahead at h
  refine lf_blk B_Main_ahead_0 ?_
  refine lf_aload rfl ?_
  refine lf_iload rfl ?_
  refine lf_callVTu (as := [.int x1]) (rest := []) h rfl rfl lf_a0 rfl (Nat.le_trans (by decide) hd) rfl rfl (by decide +kernel) (fun p h9 => s_Main_needBed h9) ?_
  intro v1 s2 h
  refine lf_iload rfl ?_
  refine lf_iconst lf_c0 ?_
  refine lf_iconst lf_c60 ?_
  refine lf_callSTu (as := [.int x2, .int (0 : Int32), .int (60 : Int32)]) (rest := []) h rfl rfl (Nat.le_trans (by decide) hd) rfl rfl (by decide +kernel) (fun p h9 => s_Main_needWithin h9) ?_
  intro v3 s4 h
  refine lf_iload rfl ?_
  refine lf_if_eq h (fun h => ?_) (fun h => ?_)
  · refine lf_blk B_Main_ahead_31 ?_
    refine lf_aload rfl ?_
    refine lf_getr (ci := 9) (k := 2) lf_a0 rfl (by decide) rfl ?_
    refine lf_getr (ci := 3) (k := 0) (lf_Holt_0 lf_Holt_at10) rfl (by decide) rfl ?_
    refine lf_getr (ci := 1) (k := 2) (lf_Beds_0 (lf_Holt_1 lf_Holt_at10)) rfl (by decide) rfl ?_
    refine lf_iload rfl ?_
    refine lf_iald h (lf_Beds_2 (lf_Holt_1 lf_Holt_at10)) ?_
    intro k5 h
    refine lf_iload rfl ?_
    refine lf_iadd ?_
    refine lf_iconst lf_c9 ?_
    refine lf_min rfl ?_
    refine lf_end ?_
    refine lf_blk B_Main_ahead_50 ?_
    cases h
    exact lf_iret ⟨rfl, rfl, rfl⟩
  · refine lf_aload rfl ?_
    refine lf_getr (ci := 9) (k := 2) lf_a0 rfl (by decide) rfl ?_
    refine lf_getr (ci := 3) (k := 0) (lf_Holt_0 lf_Holt_at10) rfl (by decide) rfl ?_
    refine lf_iload rfl ?_
    refine lf_iload rfl ?_
    refine lf_callVRi (as := [.int x1, .int x2]) (rest := []) h rfl rfl (lf_Beds_0 (lf_Holt_1 lf_Holt_at10)) rfl (Nat.le_trans (by decide) hd) rfl rfl (fun p6 h9 => s_Beds_stoolsAhead (lf_Holt_1 lf_Holt_at10) h9) ?_
    intro p6 h
    refine lf_goto ?_
    refine lf_blk B_Main_ahead_50 ?_
    cases h
    exact lf_iret ⟨rfl, rfl, rfl⟩
theorem s_Main_trial {sc : Nat × (Nat → Int32)} {x1 : Int32} {x2 : Int32} {s : lf_S} {p : (Nat ⊕ Int32) × lf_S} (h : f_Main_trial x1 x2 s = some p) : lf_th sc 7 j_Main_trial [.ref 0, .int x1, .int x2] s lf_vi p := by
  refine lf_inT (D := 6) (ls := [.ref 0, .int x1, .int x2]) rfl (lf_zti (by decide +kernel)) rfl ?_
  intro d hd cl
  unfold f_Main_trial at h
  refine lf_blk B_Main_trial_0 ?_
  refine lf_iload rfl ?_
  refine lf_iconst lf_c0 ?_
  refine lf_iconst lf_c60 ?_
  refine lf_callSTu (as := [.int x1, .int (0 : Int32), .int (60 : Int32)]) (rest := []) h rfl rfl (Nat.le_trans (by decide) hd) rfl rfl (by decide +kernel) (fun p h9 => s_Main_needWithin h9) ?_
  intro v1 s2 h
  refine lf_aload rfl ?_
  refine lf_getr (ci := 9) (k := 4) lf_a0 rfl (by decide) rfl ?_
  refine lf_aload rfl ?_
  refine lf_getr (ci := 9) (k := 2) lf_a0 rfl (by decide) rfl ?_
  refine lf_callVWu (as := [.ref 10]) (rest := []) h rfl rfl (lf_Holt_0 lf_Holt_at40) rfl (Nat.le_trans (by decide) hd) rfl rfl (fun p3 h9 => s_Holt_copy lf_Holt_at40 lf_Holt_at10 h9) ?_
  intro p3 h
  refine lf_aload rfl ?_
  refine lf_getr (ci := 9) (k := 4) lf_a0 rfl (by decide) rfl ?_
  refine lf_iload rfl ?_
  refine lf_callVWi (as := [.int x1]) (rest := []) h rfl rfl (lf_Holt_0 lf_Holt_at40) rfl (Nat.le_trans (by decide) hd) rfl rfl (fun p4 h9 => s_Holt_passYears lf_Holt_at40 h9) ?_
  intro p4 h
  refine lf_popi ?_
  refine lf_iload rfl ?_
  refine lf_if_eq h (fun h => ?_) (fun h => ?_)
  · refine lf_blk B_Main_trial_44 ?_
    refine lf_aload rfl ?_
    refine lf_getr (ci := 9) (k := 4) lf_a0 rfl (by decide) rfl ?_
    refine lf_getf (ci := 3) (k := 8) (lf_Holt_0 lf_Holt_at40) rfl (by decide) rfl ?_
    refine lf_end ?_
    refine lf_blk B_Main_trial_51 ?_
    cases h
    exact lf_iret ⟨rfl, rfl, rfl⟩
  · refine lf_aload rfl ?_
    refine lf_getr (ci := 9) (k := 4) lf_a0 rfl (by decide) rfl ?_
    refine lf_getr (ci := 3) (k := 3) (lf_Holt_0 lf_Holt_at40) rfl (by decide) rfl ?_
    refine lf_getf (ci := 6) (k := 1) (lf_Orders_0 (lf_Holt_18 lf_Holt_at40)) rfl (by decide) rfl ?_
    refine lf_goto ?_
    refine lf_blk B_Main_trial_51 ?_
    cases h
    exact lf_iret ⟨rfl, rfl, rfl⟩
theorem s_Main_span_12 {sc : Nat × (Nat → Int32)} {d : Nat} {Q : mj_Q} {cl : Bool} {rc rs : Nat} {c1 : Int32} {c2 : Int32} {p : Int32 × lf_S} (hd : 6 ≤ d) (hk : lf_wp sc d j_Main_span Q 96 [mj_U, mj_U, mj_U, .int p.1, mj_U] [] (lf_hp p.2) cl rc rs) : ∀ (n : Nat) (v3 : Int32) (v4 : Int32) (s : lf_S), f_Main_span_12 c1 c2 n v3 v4 s = some p → lf_wp sc d j_Main_span Q 12 [.ref 0, .int c1, .int c2, .int v3, .int v4] [] (lf_hp s) cl rc rs := by
  intro n
  induction n with
  | zero =>
    intro v3 v4 s h
    exact absurd h (fun z => by cases z)
  | succ n ih =>
    intro v3 v4 s h
    unfold f_Main_span_12 at h
    refine lf_blk B_Main_span_12 ?_
    refine lf_iload rfl ?_
    refine lf_iconst lf_c6 ?_
    refine lf_icmp_gt h (fun h => ?_) (fun h => ?_)
    · rw [← Option.some.inj h] at hk
      exact mj_w_weak (ls := [mj_U, mj_U, mj_U, .int v3, mj_U]) (lf_rr (lf_ri (lf_ri (lf_rl (lf_ri (lf_r0)))))) hk
    · refine lf_aload rfl ?_
      refine lf_getr (ci := 9) (k := 4) lf_a0 rfl (by decide) rfl ?_
      refine lf_aload rfl ?_
      refine lf_getr (ci := 9) (k := 2) lf_a0 rfl (by decide) rfl ?_
      refine lf_callVWu (as := [.ref 10]) (rest := []) h rfl rfl (lf_Holt_0 lf_Holt_at40) rfl (Nat.le_trans (by decide) hd) rfl rfl (fun p5 h9 => s_Holt_copy lf_Holt_at40 lf_Holt_at10 h9) ?_
      intro p5 h
      refine lf_aload rfl ?_
      refine lf_getr (ci := 9) (k := 4) lf_a0 rfl (by decide) rfl ?_
      refine lf_iload rfl ?_
      refine lf_putf (ci := 3) (k := 10) h (lf_Holt_0 lf_Holt_at40) rfl (by decide) rfl rfl rfl ?_
      intro s6 h
      refine lf_aload rfl ?_
      refine lf_getr (ci := 9) (k := 4) lf_a0 rfl (by decide) rfl ?_
      refine lf_iload rfl ?_
      refine lf_callVWi (as := [.int c1]) (rest := []) h rfl rfl (lf_Holt_0 lf_Holt_at40) rfl (Nat.le_trans (by decide) hd) rfl rfl (fun p7 h9 => s_Holt_passYears lf_Holt_at40 h9) ?_
      intro p7 h
      refine lf_popi ?_
      refine lf_iload rfl ?_
      refine lf_iconst lf_cm1 ?_
      refine lf_icmp_eq h (fun h => ?_) (fun h => ?_)
      · refine lf_blk B_Main_span_82 ?_
        refine lf_aload rfl ?_
        refine lf_getr (ci := 9) (k := 4) lf_a0 rfl (by decide) rfl ?_
        refine lf_getf (ci := 3) (k := 8) (lf_Holt_0 lf_Holt_at40) rfl (by decide) rfl ?_
        refine lf_istore (L := fun y8 => [.ref 0, .int c1, .int c2, .int y8, .int v4]) h rfl rfl (fun _ => rfl) ?_
        intro y8 h
        refine lf_end ?_
        refine lf_blk B_Main_span_90 ?_
        refine lf_iinc (L := fun y9 => [.ref 0, .int c1, .int c2, .int y8, .int y9]) h lf_c1 rfl rfl (fun _ => rfl) ?_
        intro y9 h
        refine lf_goto ?_
        exact mj_w_weak (ls := [.ref 0, .int c1, .int c2, .int y8, .int y9]) (lf_rl (lf_rl (lf_rl (lf_rl (lf_rl (lf_r0)))))) (ih y8 y9 p7.2 h)
      · refine lf_iload rfl ?_
        refine lf_if_eq h (fun h => ?_) (fun h => ?_)
        · refine lf_blk B_Main_span_71 ?_
          refine lf_aload rfl ?_
          refine lf_getr (ci := 9) (k := 4) lf_a0 rfl (by decide) rfl ?_
          refine lf_getf (ci := 3) (k := 8) (lf_Holt_0 lf_Holt_at40) rfl (by decide) rfl ?_
          refine lf_iload rfl ?_
          refine lf_icmp_ge h (fun h => ?_) (fun h => ?_)
          · refine lf_blk B_Main_span_90 ?_
            refine lf_iinc (L := fun y10 => [.ref 0, .int c1, .int c2, .int v3, .int y10]) h lf_c1 rfl rfl (fun _ => rfl) ?_
            intro y10 h
            refine lf_goto ?_
            exact mj_w_weak (ls := [.ref 0, .int c1, .int c2, .int v3, .int y10]) (lf_rl (lf_rl (lf_rl (lf_rl (lf_rl (lf_r0)))))) (ih v3 y10 p7.2 h)
          · refine lf_end ?_
            refine lf_blk B_Main_span_82 ?_
            refine lf_aload rfl ?_
            refine lf_getr (ci := 9) (k := 4) lf_a0 rfl (by decide) rfl ?_
            refine lf_getf (ci := 3) (k := 8) (lf_Holt_0 lf_Holt_at40) rfl (by decide) rfl ?_
            refine lf_istore (L := fun y11 => [.ref 0, .int c1, .int c2, .int y11, .int v4]) h rfl rfl (fun _ => rfl) ?_
            intro y11 h
            refine lf_end ?_
            refine lf_blk B_Main_span_90 ?_
            refine lf_iinc (L := fun y12 => [.ref 0, .int c1, .int c2, .int y11, .int y12]) h lf_c1 rfl rfl (fun _ => rfl) ?_
            intro y12 h
            refine lf_goto ?_
            exact mj_w_weak (ls := [.ref 0, .int c1, .int c2, .int y11, .int y12]) (lf_rl (lf_rl (lf_rl (lf_rl (lf_rl (lf_r0)))))) (ih y11 y12 p7.2 h)
        · refine lf_aload rfl ?_
          refine lf_getr (ci := 9) (k := 4) lf_a0 rfl (by decide) rfl ?_
          refine lf_getf (ci := 3) (k := 8) (lf_Holt_0 lf_Holt_at40) rfl (by decide) rfl ?_
          refine lf_iload rfl ?_
          refine lf_icmp_le h (fun h => ?_) (fun h => ?_)
          · refine lf_blk B_Main_span_90 ?_
            refine lf_iinc (L := fun y13 => [.ref 0, .int c1, .int c2, .int v3, .int y13]) h lf_c1 rfl rfl (fun _ => rfl) ?_
            intro y13 h
            refine lf_goto ?_
            exact mj_w_weak (ls := [.ref 0, .int c1, .int c2, .int v3, .int y13]) (lf_rl (lf_rl (lf_rl (lf_rl (lf_rl (lf_r0)))))) (ih v3 y13 p7.2 h)
          · refine lf_goto ?_
            refine lf_blk B_Main_span_82 ?_
            refine lf_aload rfl ?_
            refine lf_getr (ci := 9) (k := 4) lf_a0 rfl (by decide) rfl ?_
            refine lf_getf (ci := 3) (k := 8) (lf_Holt_0 lf_Holt_at40) rfl (by decide) rfl ?_
            refine lf_istore (L := fun y14 => [.ref 0, .int c1, .int c2, .int y14, .int v4]) h rfl rfl (fun _ => rfl) ?_
            intro y14 h
            refine lf_end ?_
            refine lf_blk B_Main_span_90 ?_
            refine lf_iinc (L := fun y15 => [.ref 0, .int c1, .int c2, .int y14, .int y15]) h lf_c1 rfl rfl (fun _ => rfl) ?_
            intro y15 h
            refine lf_goto ?_
            exact mj_w_weak (ls := [.ref 0, .int c1, .int c2, .int y14, .int y15]) (lf_rl (lf_rl (lf_rl (lf_rl (lf_rl (lf_r0)))))) (ih y14 y15 p7.2 h)
theorem s_Main_span {sc : Nat × (Nat → Int32)} {x1 : Int32} {x2 : Int32} {s : lf_S} {p : (Nat ⊕ Int32) × lf_S} (h : f_Main_span x1 x2 s = some p) : lf_th sc 7 j_Main_span [.ref 0, .int x1, .int x2] s lf_vi p := by
  refine lf_inT (D := 6) (ls := [.ref 0, .int x1, .int x2, mj_U, mj_U]) rfl (lf_zti (by decide +kernel)) rfl ?_
  intro d hd cl
  unfold f_Main_span at h
  refine lf_blk B_Main_span_0 ?_
  refine lf_iload rfl ?_
  refine lf_iconst lf_c0 ?_
  refine lf_iconst lf_c60 ?_
  refine lf_callSTu (as := [.int x1, .int (0 : Int32), .int (60 : Int32)]) (rest := []) h rfl rfl (Nat.le_trans (by decide) hd) rfl rfl (by decide +kernel) (fun p h9 => s_Main_needWithin h9) ?_
  intro v1 s2 h
  refine lf_iconst lf_cm1 ?_
  refine lf_istore (L := fun y3 => [.ref 0, .int x1, .int x2, .int y3, mj_U]) h rfl rfl (fun _ => rfl) ?_
  intro y3 h
  refine lf_iconst lf_c1 ?_
  refine lf_istore (L := fun y4 => [.ref 0, .int x1, .int x2, .int y3, .int y4]) h rfl rfl (fun _ => rfl) ?_
  intro y4 h
  refine lf_end ?_
  refine lf_loop h (fun p16 hp16 h => ?_)
  refine mj_w_weak (ls := [.ref 0, .int x1, .int x2, .int y3, .int y4]) (lf_rl (lf_rl (lf_rl (lf_rl (lf_rl (lf_r0)))))) ?_
  refine s_Main_span_12 (Nat.le_trans (by decide) hd) ?_ 5000 y3 y4 s2 hp16
  refine lf_blk B_Main_span_96 ?_
  refine lf_iload rfl ?_
  cases h
  exact lf_iret ⟨rfl, rfl, rfl⟩
theorem s_Main_led {sc : Nat × (Nat → Int32)} {x1 : Int32} {x2 : Int32} {s : lf_S} {p : (Nat ⊕ Int32) × lf_S} (h : f_Main_led x1 x2 s = some p) : lf_th sc 4 j_Main_led [.ref 0, .int x1, .int x2] s lf_vi p := by
  refine lf_inT (D := 3) (ls := [.ref 0, .int x1, .int x2]) rfl (lf_zti (by decide +kernel)) rfl ?_
  intro d hd cl
  unfold f_Main_led at h
  refine lf_blk B_Main_led_0 ?_
  refine lf_aload rfl ?_
  refine lf_iload rfl ?_
  refine lf_callVTu (as := [.int x1]) (rest := []) h rfl rfl lf_a0 rfl (Nat.le_trans (by decide) hd) rfl rfl (by decide +kernel) (fun p h9 => s_Main_needBed h9) ?_
  intro v1 s2 h
  refine lf_iload rfl ?_
  refine lf_if_eq h (fun h => ?_) (fun h => ?_)
  · refine lf_blk B_Main_led_23 ?_
    refine lf_aload rfl ?_
    refine lf_getr (ci := 9) (k := 2) lf_a0 rfl (by decide) rfl ?_
    refine lf_getr (ci := 3) (k := 4) (lf_Holt_0 lf_Holt_at10) rfl (by decide) rfl ?_
    refine lf_iload rfl ?_
    refine lf_callVRi (as := [.int x1]) (rest := []) h rfl rfl (lf_Log_0 (lf_Holt_21 lf_Holt_at10)) rfl (Nat.le_trans (by decide) hd) rfl rfl (fun p3 h9 => s_Log_cutsOf (lf_Holt_21 lf_Holt_at10) h9) ?_
    intro p3 h
    refine lf_end ?_
    refine lf_blk B_Main_led_34 ?_
    cases h
    exact lf_iret ⟨rfl, rfl, rfl⟩
  · refine lf_aload rfl ?_
    refine lf_getr (ci := 9) (k := 2) lf_a0 rfl (by decide) rfl ?_
    refine lf_getr (ci := 3) (k := 4) (lf_Holt_0 lf_Holt_at10) rfl (by decide) rfl ?_
    refine lf_iload rfl ?_
    refine lf_callVRi (as := [.int x1]) (rest := []) h rfl rfl (lf_Log_0 (lf_Holt_21 lf_Holt_at10)) rfl (Nat.le_trans (by decide) hd) rfl rfl (fun p4 h9 => s_Log_latestCut (lf_Holt_21 lf_Holt_at10) h9) ?_
    intro p4 h
    refine lf_goto ?_
    refine lf_blk B_Main_led_34 ?_
    cases h
    exact lf_iret ⟨rfl, rfl, rfl⟩
theorem s_Main_log {sc : Nat × (Nat → Int32)} {x1 : Int32} {x2 : Int32} {s : lf_S} {p : (Nat ⊕ Int32) × lf_S} (h : f_Main_log x1 x2 s = some p) : lf_th sc 2 j_Main_log [.ref 0, .int x1, .int x2] s lf_vi p := by
  refine lf_inT (D := 1) (ls := [.ref 0, .int x1, .int x2]) rfl (lf_zti (by decide +kernel)) rfl ?_
  intro d hd cl
  unfold f_Main_log at h
  refine lf_blk B_Main_log_0 ?_
  refine lf_iload rfl ?_
  refine lf_if_lt h (fun h => ?_) (fun h => ?_)
  · refine lf_blk B_Main_log_9 ?_
    cases h
    exact lf_throw rfl
  · refine lf_iload rfl ?_
    refine lf_iconst lf_c4 ?_
    refine lf_icmp_lt h (fun h => ?_) (fun h => ?_)
    · refine lf_blk B_Main_log_19 ?_
      refine lf_aload rfl ?_
      refine lf_getr (ci := 9) (k := 2) lf_a0 rfl (by decide) rfl ?_
      refine lf_getr (ci := 3) (k := 4) (lf_Holt_0 lf_Holt_at10) rfl (by decide) rfl ?_
      refine lf_iload rfl ?_
      refine lf_iload rfl ?_
      refine lf_callVRi (as := [.int x1, .int x2]) (rest := []) h rfl rfl (lf_Log_0 (lf_Holt_21 lf_Holt_at10)) rfl (Nat.le_trans (by decide) hd) rfl rfl (fun p1 h9 => s_Log_cellOf (lf_Holt_21 lf_Holt_at10) h9) ?_
      intro p1 h
      cases h
      exact lf_iret ⟨rfl, rfl, rfl⟩
    · refine lf_end ?_
      refine lf_blk B_Main_log_9 ?_
      cases h
      exact lf_throw rfl
theorem s_Mod_some_5 {sc : Nat × (Nat → Int32)} {d : Nat} {Q : mj_Q} {cl : Bool} {rc rs : Nat} {E : Nat} {q_Mod_some : lf_S → Option (Bool × lf_S)} {q_Mod_every : lf_S → Option (Bool × lf_S)} {q_Mod_atom : lf_S → Option (Bool × lf_S)} {p : Int32 × lf_S} (hE : 7 ≤ E) (hq_Mod_some : ∀ (s : lf_S) (p : Bool × lf_S), q_Mod_some s = some p → lf_ok sc E j_Mod_some [.ref 389] s (some (.int (lf_i p.1))) p.2) (hq_Mod_every : ∀ (s : lf_S) (p : Bool × lf_S), q_Mod_every s = some p → lf_ok sc E j_Mod_every [.ref 389] s (some (.int (lf_i p.1))) p.2) (hq_Mod_atom : ∀ (s : lf_S) (p : Bool × lf_S), q_Mod_atom s = some p → lf_ok sc E j_Mod_atom [.ref 389] s (some (.int (lf_i p.1))) p.2) (hd : E ≤ d) (hk : lf_wp sc d j_Mod_some Q 44 [mj_U, .int p.1, mj_U] [] (lf_hp p.2) cl rc rs) : ∀ (n : Nat) (v1 : Int32) (s : lf_S), f_Mod_some_5 q_Mod_some q_Mod_every q_Mod_atom n v1 s = some p → lf_wp sc d j_Mod_some Q 5 [.ref 389, .int v1, mj_U] [] (lf_hp s) cl rc rs := by
  intro n
  induction n with
  | zero =>
    intro v1 s h
    exact absurd h (fun z => by cases z)
  | succ n ih =>
    intro v1 s h
    unfold f_Mod_some_5 at h
    refine lf_blk B_Mod_some_5 ?_
    refine lf_aload rfl ?_
    refine lf_getf (ci := 10) (k := 12) lf_a389 rfl (by decide) rfl ?_
    refine lf_iconst lf_cm1 ?_
    refine lf_icmp_ne h (fun h => ?_) (fun h => ?_)
    · rw [← Option.some.inj h] at hk
      exact mj_w_weak (ls := [mj_U, .int v1, mj_U]) (lf_rr (lf_rl (lf_rl (lf_r0)))) hk
    · refine lf_aload rfl ?_
      refine lf_ldc ?_
      refine lf_callVWb (as := [.ref (mj_SC + 1 + 27)]) (rest := []) h rfl rfl lf_a389 rfl (Nat.le_trans (Nat.le_trans (by decide) hE) hd) rfl rfl (fun p3 h9 => s_Mod_has (by decide : 27 < 71) h9) ?_
      intro p3 h
      refine lf_ifb_eq h (fun h => ?_) (fun h => ?_)
      · rw [← Option.some.inj h] at hk
        exact mj_w_weak (ls := [mj_U, .int v1, mj_U]) (lf_rr (lf_rl (lf_rl (lf_r0)))) hk
      · refine lf_aload rfl ?_
        refine lf_callVWb (as := []) (rest := []) h rfl rfl lf_a389 rfl hd rfl rfl (fun p4 h9 => hq_Mod_every _ _ h9) ?_
        intro p4 h
        refine lf_istoreb (L := fun e5 => [.ref 389, .int v1, .int (lf_i e5)]) h rfl rfl (fun _ => rfl) ?_
        intro e5 h
        refine lf_iload rfl ?_
        refine lf_if_ne h (fun h => ?_) (fun h => ?_)
        · refine lf_blk B_Mod_some_35 ?_
          refine lf_iconst lf_c1 ?_
          refine lf_goto ?_
          refine lf_blk B_Mod_some_40 ?_
          refine lf_istore (L := fun y6 => [.ref 389, .int y6, .int (lf_i e5)]) h rfl rfl (fun _ => rfl) ?_
          intro y6 h
          refine lf_goto ?_
          exact mj_w_weak (ls := [.ref 389, .int y6, mj_U]) (lf_rl (lf_rl (lf_ri (lf_r0)))) (ih y6 p4.2 h)
        · refine lf_iload rfl ?_
          refine lf_ifb_eq h (fun h => ?_) (fun h => ?_)
          · refine lf_blk B_Mod_some_39 ?_
            refine lf_iconst lf_c0 ?_
            refine lf_end ?_
            refine lf_blk B_Mod_some_40 ?_
            refine lf_istore (L := fun y7 => [.ref 389, .int y7, .int (lf_i e5)]) h rfl rfl (fun _ => rfl) ?_
            intro y7 h
            refine lf_goto ?_
            exact mj_w_weak (ls := [.ref 389, .int y7, mj_U]) (lf_rl (lf_rl (lf_ri (lf_r0)))) (ih y7 p4.2 h)
          · refine lf_end ?_
            refine lf_blk B_Mod_some_35 ?_
            refine lf_iconst lf_c1 ?_
            refine lf_goto ?_
            refine lf_blk B_Mod_some_40 ?_
            refine lf_istore (L := fun y8 => [.ref 389, .int y8, .int (lf_i e5)]) h rfl rfl (fun _ => rfl) ?_
            intro y8 h
            refine lf_goto ?_
            exact mj_w_weak (ls := [.ref 389, .int y8, mj_U]) (lf_rl (lf_rl (lf_ri (lf_r0)))) (ih y8 p4.2 h)
theorem sb_Mod_some {sc : Nat × (Nat → Int32)} {E : Nat} {q_Mod_some : lf_S → Option (Bool × lf_S)} {q_Mod_every : lf_S → Option (Bool × lf_S)} {q_Mod_atom : lf_S → Option (Bool × lf_S)} (hE : 7 ≤ E) (hq_Mod_some : ∀ (s : lf_S) (p : Bool × lf_S), q_Mod_some s = some p → lf_ok sc E j_Mod_some [.ref 389] s (some (.int (lf_i p.1))) p.2) (hq_Mod_every : ∀ (s : lf_S) (p : Bool × lf_S), q_Mod_every s = some p → lf_ok sc E j_Mod_every [.ref 389] s (some (.int (lf_i p.1))) p.2) (hq_Mod_atom : ∀ (s : lf_S) (p : Bool × lf_S), q_Mod_atom s = some p → lf_ok sc E j_Mod_atom [.ref 389] s (some (.int (lf_i p.1))) p.2) {s : lf_S} {p : Bool × lf_S} (h : fb_Mod_some q_Mod_some q_Mod_every q_Mod_atom s = some p) : lf_ok sc (E + 1) j_Mod_some [.ref 389] s (some (.int (lf_i p.1))) p.2 := by
  refine lf_in (D := E) (ls := [.ref 389, mj_U, mj_U]) rfl lf_zb rfl ?_
  intro d hd cl rc rs
  unfold fb_Mod_some at h
  refine lf_blk B_Mod_some_0 ?_
  refine lf_aload rfl ?_
  refine lf_callVWb (as := []) (rest := []) h rfl rfl lf_a389 rfl hd rfl rfl (fun p1 h9 => hq_Mod_every _ _ h9) ?_
  intro p1 h
  refine lf_istoreb (L := fun e2 => [.ref 389, .int (lf_i e2), mj_U]) h rfl rfl (fun _ => rfl) ?_
  intro e2 h
  refine lf_end ?_
  refine lf_loop h (fun p9 hp9 h => ?_)
  refine mj_w_weak (ls := [.ref 389, .int (lf_i e2), mj_U]) (lf_rl (lf_rl (lf_rl (lf_r0)))) ?_
  refine s_Mod_some_5 hE hq_Mod_some hq_Mod_every hq_Mod_atom hd ?_ 5000 (lf_i e2) p1.2 hp9
  refine lf_blk B_Mod_some_44 ?_
  refine lf_iload rfl ?_
  refine lf_loop h (fun q10 hq10 h => ?_)
  rw [lf_rb_some hq10]
  cases h
  exact lf_iret ⟨rfl, rfl, rfl⟩
theorem s_Mod_every_5 {sc : Nat × (Nat → Int32)} {d : Nat} {Q : mj_Q} {cl : Bool} {rc rs : Nat} {E : Nat} {q_Mod_some : lf_S → Option (Bool × lf_S)} {q_Mod_every : lf_S → Option (Bool × lf_S)} {q_Mod_atom : lf_S → Option (Bool × lf_S)} {p : Int32 × lf_S} (hE : 7 ≤ E) (hq_Mod_some : ∀ (s : lf_S) (p : Bool × lf_S), q_Mod_some s = some p → lf_ok sc E j_Mod_some [.ref 389] s (some (.int (lf_i p.1))) p.2) (hq_Mod_every : ∀ (s : lf_S) (p : Bool × lf_S), q_Mod_every s = some p → lf_ok sc E j_Mod_every [.ref 389] s (some (.int (lf_i p.1))) p.2) (hq_Mod_atom : ∀ (s : lf_S) (p : Bool × lf_S), q_Mod_atom s = some p → lf_ok sc E j_Mod_atom [.ref 389] s (some (.int (lf_i p.1))) p.2) (hd : E ≤ d) (hk : lf_wp sc d j_Mod_every Q 44 [mj_U, .int p.1, mj_U] [] (lf_hp p.2) cl rc rs) : ∀ (n : Nat) (v1 : Int32) (s : lf_S), f_Mod_every_5 q_Mod_some q_Mod_every q_Mod_atom n v1 s = some p → lf_wp sc d j_Mod_every Q 5 [.ref 389, .int v1, mj_U] [] (lf_hp s) cl rc rs := by
  intro n
  induction n with
  | zero =>
    intro v1 s h
    exact absurd h (fun z => by cases z)
  | succ n ih =>
    intro v1 s h
    unfold f_Mod_every_5 at h
    refine lf_blk B_Mod_every_5 ?_
    refine lf_aload rfl ?_
    refine lf_getf (ci := 10) (k := 12) lf_a389 rfl (by decide) rfl ?_
    refine lf_iconst lf_cm1 ?_
    refine lf_icmp_ne h (fun h => ?_) (fun h => ?_)
    · rw [← Option.some.inj h] at hk
      exact mj_w_weak (ls := [mj_U, .int v1, mj_U]) (lf_rr (lf_rl (lf_rl (lf_r0)))) hk
    · refine lf_aload rfl ?_
      refine lf_ldc ?_
      refine lf_callVWb (as := [.ref (mj_SC + 1 + 26)]) (rest := []) h rfl rfl lf_a389 rfl (Nat.le_trans (Nat.le_trans (by decide) hE) hd) rfl rfl (fun p3 h9 => s_Mod_has (by decide : 26 < 71) h9) ?_
      intro p3 h
      refine lf_ifb_eq h (fun h => ?_) (fun h => ?_)
      · rw [← Option.some.inj h] at hk
        exact mj_w_weak (ls := [mj_U, .int v1, mj_U]) (lf_rr (lf_rl (lf_rl (lf_r0)))) hk
      · refine lf_aload rfl ?_
        refine lf_callVWb (as := []) (rest := []) h rfl rfl lf_a389 rfl hd rfl rfl (fun p4 h9 => hq_Mod_atom _ _ h9) ?_
        intro p4 h
        refine lf_istoreb (L := fun e5 => [.ref 389, .int v1, .int (lf_i e5)]) h rfl rfl (fun _ => rfl) ?_
        intro e5 h
        refine lf_iload rfl ?_
        refine lf_if_eq h (fun h => ?_) (fun h => ?_)
        · refine lf_blk B_Mod_every_39 ?_
          refine lf_iconst lf_c0 ?_
          refine lf_end ?_
          refine lf_blk B_Mod_every_40 ?_
          refine lf_istore (L := fun y6 => [.ref 389, .int y6, .int (lf_i e5)]) h rfl rfl (fun _ => rfl) ?_
          intro y6 h
          refine lf_goto ?_
          exact mj_w_weak (ls := [.ref 389, .int y6, mj_U]) (lf_rl (lf_rl (lf_ri (lf_r0)))) (ih y6 p4.2 h)
        · refine lf_iload rfl ?_
          refine lf_ifb_eq h (fun h => ?_) (fun h => ?_)
          · refine lf_blk B_Mod_every_39 ?_
            refine lf_iconst lf_c0 ?_
            refine lf_end ?_
            refine lf_blk B_Mod_every_40 ?_
            refine lf_istore (L := fun y7 => [.ref 389, .int y7, .int (lf_i e5)]) h rfl rfl (fun _ => rfl) ?_
            intro y7 h
            refine lf_goto ?_
            exact mj_w_weak (ls := [.ref 389, .int y7, mj_U]) (lf_rl (lf_rl (lf_ri (lf_r0)))) (ih y7 p4.2 h)
          · refine lf_iconst lf_c1 ?_
            refine lf_goto ?_
            refine lf_blk B_Mod_every_40 ?_
            refine lf_istore (L := fun y8 => [.ref 389, .int y8, .int (lf_i e5)]) h rfl rfl (fun _ => rfl) ?_
            intro y8 h
            refine lf_goto ?_
            exact mj_w_weak (ls := [.ref 389, .int y8, mj_U]) (lf_rl (lf_rl (lf_ri (lf_r0)))) (ih y8 p4.2 h)
theorem sb_Mod_every {sc : Nat × (Nat → Int32)} {E : Nat} {q_Mod_some : lf_S → Option (Bool × lf_S)} {q_Mod_every : lf_S → Option (Bool × lf_S)} {q_Mod_atom : lf_S → Option (Bool × lf_S)} (hE : 7 ≤ E) (hq_Mod_some : ∀ (s : lf_S) (p : Bool × lf_S), q_Mod_some s = some p → lf_ok sc E j_Mod_some [.ref 389] s (some (.int (lf_i p.1))) p.2) (hq_Mod_every : ∀ (s : lf_S) (p : Bool × lf_S), q_Mod_every s = some p → lf_ok sc E j_Mod_every [.ref 389] s (some (.int (lf_i p.1))) p.2) (hq_Mod_atom : ∀ (s : lf_S) (p : Bool × lf_S), q_Mod_atom s = some p → lf_ok sc E j_Mod_atom [.ref 389] s (some (.int (lf_i p.1))) p.2) {s : lf_S} {p : Bool × lf_S} (h : fb_Mod_every q_Mod_some q_Mod_every q_Mod_atom s = some p) : lf_ok sc (E + 1) j_Mod_every [.ref 389] s (some (.int (lf_i p.1))) p.2 := by
  refine lf_in (D := E) (ls := [.ref 389, mj_U, mj_U]) rfl lf_zb rfl ?_
  intro d hd cl rc rs
  unfold fb_Mod_every at h
  refine lf_blk B_Mod_every_0 ?_
  refine lf_aload rfl ?_
  refine lf_callVWb (as := []) (rest := []) h rfl rfl lf_a389 rfl hd rfl rfl (fun p1 h9 => hq_Mod_atom _ _ h9) ?_
  intro p1 h
  refine lf_istoreb (L := fun e2 => [.ref 389, .int (lf_i e2), mj_U]) h rfl rfl (fun _ => rfl) ?_
  intro e2 h
  refine lf_end ?_
  refine lf_loop h (fun p9 hp9 h => ?_)
  refine mj_w_weak (ls := [.ref 389, .int (lf_i e2), mj_U]) (lf_rl (lf_rl (lf_rl (lf_r0)))) ?_
  refine s_Mod_every_5 hE hq_Mod_some hq_Mod_every hq_Mod_atom hd ?_ 5000 (lf_i e2) p1.2 hp9
  refine lf_blk B_Mod_every_44 ?_
  refine lf_iload rfl ?_
  refine lf_loop h (fun q10 hq10 h => ?_)
  rw [lf_rb_some hq10]
  cases h
  exact lf_iret ⟨rfl, rfl, rfl⟩
theorem sb_Mod_atom {sc : Nat × (Nat → Int32)} {E : Nat} {q_Mod_some : lf_S → Option (Bool × lf_S)} {q_Mod_every : lf_S → Option (Bool × lf_S)} {q_Mod_atom : lf_S → Option (Bool × lf_S)} (hE : 7 ≤ E) (hq_Mod_some : ∀ (s : lf_S) (p : Bool × lf_S), q_Mod_some s = some p → lf_ok sc E j_Mod_some [.ref 389] s (some (.int (lf_i p.1))) p.2) (hq_Mod_every : ∀ (s : lf_S) (p : Bool × lf_S), q_Mod_every s = some p → lf_ok sc E j_Mod_every [.ref 389] s (some (.int (lf_i p.1))) p.2) (hq_Mod_atom : ∀ (s : lf_S) (p : Bool × lf_S), q_Mod_atom s = some p → lf_ok sc E j_Mod_atom [.ref 389] s (some (.int (lf_i p.1))) p.2) {s : lf_S} {p : Bool × lf_S} (h : fb_Mod_atom q_Mod_some q_Mod_every q_Mod_atom s = some p) : lf_ok sc (E + 1) j_Mod_atom [.ref 389] s (some (.int (lf_i p.1))) p.2 := by
  refine lf_in (D := E) (ls := [.ref 389, mj_U, mj_U, mj_U]) rfl lf_zb rfl ?_
  intro d hd cl rc rs
  unfold fb_Mod_atom at h
  refine lf_blk B_Mod_atom_0 ?_
  refine lf_aload rfl ?_
  refine lf_getf (ci := 10) (k := 12) lf_a389 rfl (by decide) rfl ?_
  refine lf_iconst lf_cm1 ?_
  refine lf_icmp_eq h (fun h => ?_) (fun h => ?_)
  · refine lf_blk B_Mod_atom_10 ?_
    refine lf_aload rfl ?_
    refine lf_callVWi (as := []) (rest := []) h rfl rfl lf_a389 rfl (Nat.le_trans (Nat.le_trans (by decide) hE) hd) rfl rfl (fun p1 h9 => s_Mod_here h9) ?_
    intro p1 h
    refine lf_istore (L := fun y2 => [.ref 389, .int y2, mj_U, mj_U]) h rfl rfl (fun _ => rfl) ?_
    intro y2 h
    refine lf_aload rfl ?_
    refine lf_ldc ?_
    refine lf_callVWb (as := [.ref (mj_SC + 1 + 25)]) (rest := []) h rfl rfl lf_a389 rfl (Nat.le_trans (Nat.le_trans (by decide) hE) hd) rfl rfl (fun p3 h9 => s_Mod_has (by decide : 25 < 71) h9) ?_
    intro p3 h
    refine lf_istoreb (L := fun e4 => [.ref 389, .int y2, .int (lf_i e4), mj_U]) h rfl rfl (fun _ => rfl) ?_
    intro e4 h
    refine lf_iload rfl ?_
    refine lf_ifb_ne h (fun h => ?_) (fun h => ?_)
    · refine lf_blk B_Mod_atom_40 ?_
      refine lf_aload rfl ?_
      refine lf_getf (ci := 10) (k := 13) lf_a389 rfl (by decide) rfl ?_
      refine lf_iconst lf_c6 ?_
      refine lf_icmp_ne h (fun h => ?_) (fun h => ?_)
      · refine lf_blk B_Mod_atom_56 ?_
        refine lf_aload rfl ?_
        refine lf_dupr ?_
        refine lf_getf (ci := 10) (k := 13) lf_a389 rfl (by decide) rfl ?_
        refine lf_iconst lf_c1 ?_
        refine lf_iadd ?_
        refine lf_putf (ci := 10) (k := 13) h lf_a389 rfl (by decide) rfl rfl rfl ?_
        intro s5 h
        refine lf_iconst lf_c0 ?_
        refine lf_istore (L := fun y6 => [.ref 389, .int y2, .int (lf_i e4), .int y6]) h rfl rfl (fun _ => rfl) ?_
        intro y6 h
        refine lf_iload rfl ?_
        refine lf_ifb_eq h (fun h => ?_) (fun h => ?_)
        · refine lf_blk B_Mod_atom_88 ?_
          refine lf_aload rfl ?_
          refine lf_dupr ?_
          refine lf_getf (ci := 10) (k := 11) lf_a389 rfl (by decide) rfl ?_
          refine lf_iconst lf_c1 ?_
          refine lf_iadd ?_
          refine lf_putf (ci := 10) (k := 11) h lf_a389 rfl (by decide) rfl rfl rfl ?_
          intro s7 h
          refine lf_aload rfl ?_
          refine lf_callVWb (as := []) (rest := []) h rfl rfl lf_a389 rfl hd rfl rfl (fun p8 h9 => hq_Mod_some _ _ h9) ?_
          intro p8 h
          refine lf_istoreb (L := fun e9 => [.ref 389, .int y2, .int (lf_i e4), .int (lf_i e9)]) h rfl rfl (fun _ => rfl) ?_
          intro e9 h
          refine lf_aload rfl ?_
          refine lf_getf (ci := 10) (k := 12) lf_a389 rfl (by decide) rfl ?_
          refine lf_iconst lf_cm1 ?_
          refine lf_icmp_ne h (fun h => ?_) (fun h => ?_)
          · refine lf_blk B_Mod_atom_128 ?_
            refine lf_aload rfl ?_
            refine lf_dupr ?_
            refine lf_getf (ci := 10) (k := 11) lf_a389 rfl (by decide) rfl ?_
            refine lf_iconst lf_c1 ?_
            refine lf_iadd ?_
            refine lf_putf (ci := 10) (k := 11) h lf_a389 rfl (by decide) rfl rfl rfl ?_
            intro s10 h
            refine lf_end ?_
            refine lf_blk B_Mod_atom_138 ?_
            refine lf_aload rfl ?_
            refine lf_dupr ?_
            refine lf_getf (ci := 10) (k := 13) lf_a389 rfl (by decide) rfl ?_
            refine lf_iconst lf_c1 ?_
            refine lf_isub ?_
            refine lf_putf (ci := 10) (k := 13) h lf_a389 rfl (by decide) rfl rfl rfl ?_
            intro s11 h
            refine lf_iload rfl ?_
            cases h
            exact lf_iret ⟨rfl, rfl, rfl⟩
          · refine lf_aload rfl ?_
            refine lf_iconst lf_c41 ?_
            refine lf_callVWb (as := [.int (41 : Int32)]) (rest := []) h rfl rfl lf_a389 rfl (Nat.le_trans (Nat.le_trans (by decide) hE) hd) rfl rfl (fun p12 h9 => s_Mod_isSign h9) ?_
            intro p12 h
            refine lf_ifb_ne h (fun h => ?_) (fun h => ?_)
            · refine lf_blk B_Mod_atom_128 ?_
              refine lf_aload rfl ?_
              refine lf_dupr ?_
              refine lf_getf (ci := 10) (k := 11) lf_a389 rfl (by decide) rfl ?_
              refine lf_iconst lf_c1 ?_
              refine lf_iadd ?_
              refine lf_putf (ci := 10) (k := 11) h lf_a389 rfl (by decide) rfl rfl rfl ?_
              intro s13 h
              refine lf_end ?_
              refine lf_blk B_Mod_atom_138 ?_
              refine lf_aload rfl ?_
              refine lf_dupr ?_
              refine lf_getf (ci := 10) (k := 13) lf_a389 rfl (by decide) rfl ?_
              refine lf_iconst lf_c1 ?_
              refine lf_isub ?_
              refine lf_putf (ci := 10) (k := 13) h lf_a389 rfl (by decide) rfl rfl rfl ?_
              intro s14 h
              refine lf_iload rfl ?_
              cases h
              exact lf_iret ⟨rfl, rfl, rfl⟩
            · refine lf_aload rfl ?_
              refine lf_aload rfl ?_
              refine lf_getf (ci := 10) (k := 11) lf_a389 rfl (by decide) rfl ?_
              refine lf_callVWu (as := [.int (p12.2.1 389 11)]) (rest := []) h rfl rfl lf_a389 rfl (Nat.le_trans (Nat.le_trans (by decide) hE) hd) rfl rfl (fun p15 h9 => s_Mod_wrong h9) ?_
              intro p15 h
              refine lf_end ?_
              refine lf_blk B_Mod_atom_128 ?_
              refine lf_aload rfl ?_
              refine lf_dupr ?_
              refine lf_getf (ci := 10) (k := 11) lf_a389 rfl (by decide) rfl ?_
              refine lf_iconst lf_c1 ?_
              refine lf_iadd ?_
              refine lf_putf (ci := 10) (k := 11) h lf_a389 rfl (by decide) rfl rfl rfl ?_
              intro s16 h
              refine lf_end ?_
              refine lf_blk B_Mod_atom_138 ?_
              refine lf_aload rfl ?_
              refine lf_dupr ?_
              refine lf_getf (ci := 10) (k := 13) lf_a389 rfl (by decide) rfl ?_
              refine lf_iconst lf_c1 ?_
              refine lf_isub ?_
              refine lf_putf (ci := 10) (k := 13) h lf_a389 rfl (by decide) rfl rfl rfl ?_
              intro s17 h
              refine lf_iload rfl ?_
              cases h
              exact lf_iret ⟨rfl, rfl, rfl⟩
        · refine lf_aload rfl ?_
          refine lf_callVWb (as := []) (rest := []) h rfl rfl lf_a389 rfl hd rfl rfl (fun p18 h9 => hq_Mod_atom _ _ h9) ?_
          intro p18 h
          refine lf_ifb_ne h (fun h => ?_) (fun h => ?_)
          · refine lf_blk B_Mod_atom_83 ?_
            refine lf_iconst lf_c0 ?_
            refine lf_end ?_
            refine lf_blk B_Mod_atom_84 ?_
            refine lf_istore (L := fun y19 => [.ref 389, .int y2, .int (lf_i e4), .int y19]) h rfl rfl (fun _ => rfl) ?_
            intro y19 h
            refine lf_goto ?_
            refine lf_blk B_Mod_atom_138 ?_
            refine lf_aload rfl ?_
            refine lf_dupr ?_
            refine lf_getf (ci := 10) (k := 13) lf_a389 rfl (by decide) rfl ?_
            refine lf_iconst lf_c1 ?_
            refine lf_isub ?_
            refine lf_putf (ci := 10) (k := 13) h lf_a389 rfl (by decide) rfl rfl rfl ?_
            intro s20 h
            refine lf_iload rfl ?_
            refine lf_loop h (fun q21 hq21 h => ?_)
            rw [lf_rb_some hq21]
            cases h
            exact lf_iret ⟨rfl, rfl, rfl⟩
          · refine lf_iconst lf_c1 ?_
            refine lf_goto ?_
            refine lf_blk B_Mod_atom_84 ?_
            refine lf_istore (L := fun y22 => [.ref 389, .int y2, .int (lf_i e4), .int y22]) h rfl rfl (fun _ => rfl) ?_
            intro y22 h
            refine lf_goto ?_
            refine lf_blk B_Mod_atom_138 ?_
            refine lf_aload rfl ?_
            refine lf_dupr ?_
            refine lf_getf (ci := 10) (k := 13) lf_a389 rfl (by decide) rfl ?_
            refine lf_iconst lf_c1 ?_
            refine lf_isub ?_
            refine lf_putf (ci := 10) (k := 13) h lf_a389 rfl (by decide) rfl rfl rfl ?_
            intro s23 h
            refine lf_iload rfl ?_
            refine lf_loop h (fun q24 hq24 h => ?_)
            rw [lf_rb_some hq24]
            cases h
            exact lf_iret ⟨rfl, rfl, rfl⟩
      · refine lf_aload rfl ?_
        refine lf_iload rfl ?_
        refine lf_callVWu (as := [.int y2]) (rest := []) h rfl rfl lf_a389 rfl (Nat.le_trans (Nat.le_trans (by decide) hE) hd) rfl rfl (fun p25 h9 => s_Mod_wrong h9) ?_
        intro p25 h
        refine lf_iconst lf_c0 ?_
        cases h
        exact lf_iret ⟨rfl, rfl, rfl⟩
    · refine lf_aload rfl ?_
      refine lf_iconst lf_c40 ?_
      refine lf_callVWb (as := [.int (40 : Int32)]) (rest := []) h rfl rfl lf_a389 rfl (Nat.le_trans (Nat.le_trans (by decide) hE) hd) rfl rfl (fun p26 h9 => s_Mod_isSign h9) ?_
      intro p26 h
      refine lf_ifb_ne h (fun h => ?_) (fun h => ?_)
      · refine lf_blk B_Mod_atom_40 ?_
        refine lf_aload rfl ?_
        refine lf_getf (ci := 10) (k := 13) lf_a389 rfl (by decide) rfl ?_
        refine lf_iconst lf_c6 ?_
        refine lf_icmp_ne h (fun h => ?_) (fun h => ?_)
        · refine lf_blk B_Mod_atom_56 ?_
          refine lf_aload rfl ?_
          refine lf_dupr ?_
          refine lf_getf (ci := 10) (k := 13) lf_a389 rfl (by decide) rfl ?_
          refine lf_iconst lf_c1 ?_
          refine lf_iadd ?_
          refine lf_putf (ci := 10) (k := 13) h lf_a389 rfl (by decide) rfl rfl rfl ?_
          intro s27 h
          refine lf_iconst lf_c0 ?_
          refine lf_istore (L := fun y28 => [.ref 389, .int y2, .int (lf_i e4), .int y28]) h rfl rfl (fun _ => rfl) ?_
          intro y28 h
          refine lf_iload rfl ?_
          refine lf_ifb_eq h (fun h => ?_) (fun h => ?_)
          · refine lf_blk B_Mod_atom_88 ?_
            refine lf_aload rfl ?_
            refine lf_dupr ?_
            refine lf_getf (ci := 10) (k := 11) lf_a389 rfl (by decide) rfl ?_
            refine lf_iconst lf_c1 ?_
            refine lf_iadd ?_
            refine lf_putf (ci := 10) (k := 11) h lf_a389 rfl (by decide) rfl rfl rfl ?_
            intro s29 h
            refine lf_aload rfl ?_
            refine lf_callVWb (as := []) (rest := []) h rfl rfl lf_a389 rfl hd rfl rfl (fun p30 h9 => hq_Mod_some _ _ h9) ?_
            intro p30 h
            refine lf_istoreb (L := fun e31 => [.ref 389, .int y2, .int (lf_i e4), .int (lf_i e31)]) h rfl rfl (fun _ => rfl) ?_
            intro e31 h
            refine lf_aload rfl ?_
            refine lf_getf (ci := 10) (k := 12) lf_a389 rfl (by decide) rfl ?_
            refine lf_iconst lf_cm1 ?_
            refine lf_icmp_ne h (fun h => ?_) (fun h => ?_)
            · refine lf_blk B_Mod_atom_128 ?_
              refine lf_aload rfl ?_
              refine lf_dupr ?_
              refine lf_getf (ci := 10) (k := 11) lf_a389 rfl (by decide) rfl ?_
              refine lf_iconst lf_c1 ?_
              refine lf_iadd ?_
              refine lf_putf (ci := 10) (k := 11) h lf_a389 rfl (by decide) rfl rfl rfl ?_
              intro s32 h
              refine lf_end ?_
              refine lf_blk B_Mod_atom_138 ?_
              refine lf_aload rfl ?_
              refine lf_dupr ?_
              refine lf_getf (ci := 10) (k := 13) lf_a389 rfl (by decide) rfl ?_
              refine lf_iconst lf_c1 ?_
              refine lf_isub ?_
              refine lf_putf (ci := 10) (k := 13) h lf_a389 rfl (by decide) rfl rfl rfl ?_
              intro s33 h
              refine lf_iload rfl ?_
              cases h
              exact lf_iret ⟨rfl, rfl, rfl⟩
            · refine lf_aload rfl ?_
              refine lf_iconst lf_c41 ?_
              refine lf_callVWb (as := [.int (41 : Int32)]) (rest := []) h rfl rfl lf_a389 rfl (Nat.le_trans (Nat.le_trans (by decide) hE) hd) rfl rfl (fun p34 h9 => s_Mod_isSign h9) ?_
              intro p34 h
              refine lf_ifb_ne h (fun h => ?_) (fun h => ?_)
              · refine lf_blk B_Mod_atom_128 ?_
                refine lf_aload rfl ?_
                refine lf_dupr ?_
                refine lf_getf (ci := 10) (k := 11) lf_a389 rfl (by decide) rfl ?_
                refine lf_iconst lf_c1 ?_
                refine lf_iadd ?_
                refine lf_putf (ci := 10) (k := 11) h lf_a389 rfl (by decide) rfl rfl rfl ?_
                intro s35 h
                refine lf_end ?_
                refine lf_blk B_Mod_atom_138 ?_
                refine lf_aload rfl ?_
                refine lf_dupr ?_
                refine lf_getf (ci := 10) (k := 13) lf_a389 rfl (by decide) rfl ?_
                refine lf_iconst lf_c1 ?_
                refine lf_isub ?_
                refine lf_putf (ci := 10) (k := 13) h lf_a389 rfl (by decide) rfl rfl rfl ?_
                intro s36 h
                refine lf_iload rfl ?_
                cases h
                exact lf_iret ⟨rfl, rfl, rfl⟩
              · refine lf_aload rfl ?_
                refine lf_aload rfl ?_
                refine lf_getf (ci := 10) (k := 11) lf_a389 rfl (by decide) rfl ?_
                refine lf_callVWu (as := [.int (p34.2.1 389 11)]) (rest := []) h rfl rfl lf_a389 rfl (Nat.le_trans (Nat.le_trans (by decide) hE) hd) rfl rfl (fun p37 h9 => s_Mod_wrong h9) ?_
                intro p37 h
                refine lf_end ?_
                refine lf_blk B_Mod_atom_128 ?_
                refine lf_aload rfl ?_
                refine lf_dupr ?_
                refine lf_getf (ci := 10) (k := 11) lf_a389 rfl (by decide) rfl ?_
                refine lf_iconst lf_c1 ?_
                refine lf_iadd ?_
                refine lf_putf (ci := 10) (k := 11) h lf_a389 rfl (by decide) rfl rfl rfl ?_
                intro s38 h
                refine lf_end ?_
                refine lf_blk B_Mod_atom_138 ?_
                refine lf_aload rfl ?_
                refine lf_dupr ?_
                refine lf_getf (ci := 10) (k := 13) lf_a389 rfl (by decide) rfl ?_
                refine lf_iconst lf_c1 ?_
                refine lf_isub ?_
                refine lf_putf (ci := 10) (k := 13) h lf_a389 rfl (by decide) rfl rfl rfl ?_
                intro s39 h
                refine lf_iload rfl ?_
                cases h
                exact lf_iret ⟨rfl, rfl, rfl⟩
          · refine lf_aload rfl ?_
            refine lf_callVWb (as := []) (rest := []) h rfl rfl lf_a389 rfl hd rfl rfl (fun p40 h9 => hq_Mod_atom _ _ h9) ?_
            intro p40 h
            refine lf_ifb_ne h (fun h => ?_) (fun h => ?_)
            · refine lf_blk B_Mod_atom_83 ?_
              refine lf_iconst lf_c0 ?_
              refine lf_end ?_
              refine lf_blk B_Mod_atom_84 ?_
              refine lf_istore (L := fun y41 => [.ref 389, .int y2, .int (lf_i e4), .int y41]) h rfl rfl (fun _ => rfl) ?_
              intro y41 h
              refine lf_goto ?_
              refine lf_blk B_Mod_atom_138 ?_
              refine lf_aload rfl ?_
              refine lf_dupr ?_
              refine lf_getf (ci := 10) (k := 13) lf_a389 rfl (by decide) rfl ?_
              refine lf_iconst lf_c1 ?_
              refine lf_isub ?_
              refine lf_putf (ci := 10) (k := 13) h lf_a389 rfl (by decide) rfl rfl rfl ?_
              intro s42 h
              refine lf_iload rfl ?_
              refine lf_loop h (fun q43 hq43 h => ?_)
              rw [lf_rb_some hq43]
              cases h
              exact lf_iret ⟨rfl, rfl, rfl⟩
            · refine lf_iconst lf_c1 ?_
              refine lf_goto ?_
              refine lf_blk B_Mod_atom_84 ?_
              refine lf_istore (L := fun y44 => [.ref 389, .int y2, .int (lf_i e4), .int y44]) h rfl rfl (fun _ => rfl) ?_
              intro y44 h
              refine lf_goto ?_
              refine lf_blk B_Mod_atom_138 ?_
              refine lf_aload rfl ?_
              refine lf_dupr ?_
              refine lf_getf (ci := 10) (k := 13) lf_a389 rfl (by decide) rfl ?_
              refine lf_iconst lf_c1 ?_
              refine lf_isub ?_
              refine lf_putf (ci := 10) (k := 13) h lf_a389 rfl (by decide) rfl rfl rfl ?_
              intro s45 h
              refine lf_iload rfl ?_
              refine lf_loop h (fun q46 hq46 h => ?_)
              rw [lf_rb_some hq46]
              cases h
              exact lf_iret ⟨rfl, rfl, rfl⟩
        · refine lf_aload rfl ?_
          refine lf_iload rfl ?_
          refine lf_callVWu (as := [.int y2]) (rest := []) h rfl rfl lf_a389 rfl (Nat.le_trans (Nat.le_trans (by decide) hE) hd) rfl rfl (fun p47 h9 => s_Mod_wrong h9) ?_
          intro p47 h
          refine lf_iconst lf_c0 ?_
          cases h
          exact lf_iret ⟨rfl, rfl, rfl⟩
      · refine lf_aload rfl ?_
        refine lf_callVWb (as := []) (rest := []) h rfl rfl lf_a389 rfl (Nat.le_trans (Nat.le_trans (by decide) hE) hd) rfl rfl (fun p48 h9 => s_Mod_plain h9) ?_
        intro p48 h
        cases h
        exact lf_iret ⟨rfl, rfl, rfl⟩
  · refine lf_iconst lf_c0 ?_
    cases h
    exact lf_iret ⟨rfl, rfl, rfl⟩
theorem F_Mod_some_ok {sc : Nat × (Nat → Int32)} : ∀ (n : Nat), (∀ (s : lf_S) (p : Bool × lf_S), (F_Mod_some n).1 s = some p → lf_ok sc (7 + n) j_Mod_some [.ref 389] s (some (.int (lf_i p.1))) p.2) ∧ (∀ (s : lf_S) (p : Bool × lf_S), (F_Mod_some n).2.1 s = some p → lf_ok sc (7 + n) j_Mod_every [.ref 389] s (some (.int (lf_i p.1))) p.2) ∧ (∀ (s : lf_S) (p : Bool × lf_S), (F_Mod_some n).2.2 s = some p → lf_ok sc (7 + n) j_Mod_atom [.ref 389] s (some (.int (lf_i p.1))) p.2) := by
  intro n
  induction n with
  | zero => exact ⟨fun s p h => absurd h (fun q => by cases q), fun s p h => absurd h (fun q => by cases q), fun s p h => absurd h (fun q => by cases q)⟩
  | succ n ih => exact ⟨fun s p h => sb_Mod_some (Nat.le_add_right _ _) ih.1 ih.2.1 ih.2.2 h, fun s p h => sb_Mod_every (Nat.le_add_right _ _) ih.1 ih.2.1 ih.2.2 h, fun s p h => sb_Mod_atom (Nat.le_add_right _ _) ih.1 ih.2.1 ih.2.2 h⟩
theorem s_Mod_some {sc : Nat × (Nat → Int32)} {s : lf_S} {p : Bool × lf_S} (h : f_Mod_some s = some p) : lf_ok sc 71 j_Mod_some [.ref 389] s (some (.int (lf_i p.1))) p.2 := (F_Mod_some_ok 64).1 s p h
theorem s_Mod_every {sc : Nat × (Nat → Int32)} {s : lf_S} {p : Bool × lf_S} (h : f_Mod_every s = some p) : lf_ok sc 71 j_Mod_every [.ref 389] s (some (.int (lf_i p.1))) p.2 := (F_Mod_some_ok 64).2.1 s p h
theorem s_Mod_atom {sc : Nat × (Nat → Int32)} {s : lf_S} {p : Bool × lf_S} (h : f_Mod_atom s = some p) : lf_ok sc 71 j_Mod_atom [.ref 389] s (some (.int (lf_i p.1))) p.2 := (F_Mod_some_ok 64).2.2 s p h
theorem s_Mod_lawLine {sc : Nat × (Nat → Int32)} {s : lf_S} {p : lf_S} (h : f_Mod_lawLine s = some p) : lf_ok sc 72 j_Mod_lawLine [.ref 389] s (none) p := by
  refine lf_in (D := 71) (ls := [.ref 389, mj_U, mj_U, mj_U]) rfl (lf_zi (by decide +kernel)) rfl ?_
  intro d hd cl rc rs
  unfold f_Mod_lawLine at h
  refine lf_blk B_Mod_lawLine_0 ?_
  refine lf_aload rfl ?_
  refine lf_ldc ?_
  refine lf_callVWb (as := [.ref (mj_SC + 1 + 28)]) (rest := []) h rfl rfl lf_a389 rfl (Nat.le_trans (by decide) hd) rfl rfl (fun p1 h9 => s_Mod_has (by decide : 28 < 71) h9) ?_
  intro p1 h
  refine lf_ifb_eq h (fun h => ?_) (fun h => ?_)
  · refine lf_blk B_Mod_lawLine_13 ?_
    refine lf_aload rfl ?_
    refine lf_ldc ?_
    refine lf_callVWb (as := [.ref (mj_SC + 1 + 29)]) (rest := []) h rfl rfl lf_a389 rfl (Nat.le_trans (by decide) hd) rfl rfl (fun p2 h9 => s_Mod_has (by decide : 29 < 71) h9) ?_
    intro p2 h
    refine lf_ifb_eq h (fun h => ?_) (fun h => ?_)
    · refine lf_blk B_Mod_lawLine_26 ?_
      refine lf_aload rfl ?_
      refine lf_ldc ?_
      refine lf_callVWb (as := [.ref (mj_SC + 1 + 30)]) (rest := []) h rfl rfl lf_a389 rfl (Nat.le_trans (by decide) hd) rfl rfl (fun p3 h9 => s_Mod_has (by decide : 30 < 71) h9) ?_
      intro p3 h
      refine lf_ifb_eq h (fun h => ?_) (fun h => ?_)
      · refine lf_blk B_Mod_lawLine_39 ?_
        refine lf_iconst lf_cm1 ?_
        refine lf_end ?_
        refine lf_blk B_Mod_lawLine_40 ?_
        refine lf_istore (L := fun y4 => [.ref 389, .int y4, mj_U, mj_U]) h rfl rfl (fun _ => rfl) ?_
        intro y4 h
        refine lf_iload rfl ?_
        refine lf_iconst lf_cm1 ?_
        refine lf_icmp_ne h (fun h => ?_) (fun h => ?_)
        · refine lf_blk B_Mod_lawLine_55 ?_
          refine lf_aload rfl ?_
          refine lf_iconst lf_c0 ?_
          refine lf_iconst lf_c99 ?_
          refine lf_callVWi (as := [.int (0 : Int32), .int (99 : Int32)]) (rest := []) h rfl rfl lf_a389 rfl (Nat.le_trans (by decide) hd) rfl rfl (fun p5 h9 => s_Mod_figures h9) ?_
          intro p5 h
          refine lf_istore (L := fun y6 => [.ref 389, .int y4, .int y6, mj_U]) h rfl rfl (fun _ => rfl) ?_
          intro y6 h
          refine lf_aload rfl ?_
          refine lf_getf (ci := 10) (k := 12) lf_a389 rfl (by decide) rfl ?_
          refine lf_iconst lf_cm1 ?_
          refine lf_icmp_eq h (fun h => ?_) (fun h => ?_)
          · refine lf_blk B_Mod_lawLine_72 ?_
            refine lf_aload rfl ?_
            refine lf_ldc ?_
            refine lf_callVWb (as := [.ref (mj_SC + 1 + 31)]) (rest := []) h rfl rfl lf_a389 rfl (Nat.le_trans (by decide) hd) rfl rfl (fun p7 h9 => s_Mod_has (by decide : 31 < 71) h9) ?_
            intro p7 h
            refine lf_ifb_eq h (fun h => ?_) (fun h => ?_)
            · refine lf_blk B_Mod_lawLine_89 ?_
              refine lf_iconst lf_c1 ?_
              refine lf_goto ?_
              refine lf_blk B_Mod_lawLine_94 ?_
              refine lf_istore (L := fun y8 => [.ref 389, .int y4, .int y6, .int y8]) h rfl rfl (fun _ => rfl) ?_
              intro y8 h
              refine lf_aload rfl ?_
              refine lf_getf (ci := 10) (k := 12) lf_a389 rfl (by decide) rfl ?_
              refine lf_iconst lf_cm1 ?_
              refine lf_icmp_ne h (fun h => ?_) (fun h => ?_)
              · refine lf_blk B_Mod_lawLine_107 ?_
                cases h
                exact lf_ret ⟨rfl, rfl, rfl⟩
              · refine lf_iload rfl ?_
                refine lf_if_ne h (fun h => ?_) (fun h => ?_)
                · refine lf_blk B_Mod_lawLine_108 ?_
                  refine lf_aload rfl ?_
                  refine lf_dupr ?_
                  refine lf_getf (ci := 10) (k := 15) lf_a389 rfl (by decide) rfl ?_
                  refine lf_iload rfl ?_
                  refine lf_if_ne h (fun h => ?_) (fun h => ?_)
                  · refine lf_blk B_Mod_lawLine_121 ?_
                    refine lf_iload rfl ?_
                    refine lf_iconst lf_c1 ?_
                    refine lf_icmp_ne h (fun h => ?_) (fun h => ?_)
                    · refine lf_blk B_Mod_lawLine_131 ?_
                      refine lf_iconst lf_c0 ?_
                      refine lf_end ?_
                      refine lf_blk B_Mod_lawLine_132 ?_
                      refine lf_iadd ?_
                      refine lf_putf (ci := 10) (k := 15) h lf_a389 rfl (by decide) rfl rfl rfl ?_
                      intro s9 h
                      refine lf_aload rfl ?_
                      refine lf_dupr ?_
                      refine lf_getf (ci := 10) (k := 16) lf_a389 rfl (by decide) rfl ?_
                      refine lf_iload rfl ?_
                      refine lf_iconst lf_c2 ?_
                      refine lf_icmp_ne h (fun h => ?_) (fun h => ?_)
                      · refine lf_blk B_Mod_lawLine_150 ?_
                        refine lf_iconst lf_c0 ?_
                        refine lf_end ?_
                        refine lf_blk B_Mod_lawLine_151 ?_
                        refine lf_iadd ?_
                        refine lf_putf (ci := 10) (k := 16) h lf_a389 rfl (by decide) rfl rfl rfl ?_
                        intro s10 h
                        cases h
                        exact lf_ret ⟨rfl, rfl, rfl⟩
                      · refine lf_iload rfl ?_
                        refine lf_goto ?_
                        refine lf_blk B_Mod_lawLine_151 ?_
                        refine lf_iadd ?_
                        refine lf_putf (ci := 10) (k := 16) h lf_a389 rfl (by decide) rfl rfl rfl ?_
                        intro s11 h
                        cases h
                        exact lf_ret ⟨rfl, rfl, rfl⟩
                    · refine lf_iload rfl ?_
                      refine lf_ineg ?_
                      refine lf_goto ?_
                      refine lf_blk B_Mod_lawLine_132 ?_
                      refine lf_iadd ?_
                      refine lf_putf (ci := 10) (k := 15) h lf_a389 rfl (by decide) rfl rfl rfl ?_
                      intro s12 h
                      refine lf_aload rfl ?_
                      refine lf_dupr ?_
                      refine lf_getf (ci := 10) (k := 16) lf_a389 rfl (by decide) rfl ?_
                      refine lf_iload rfl ?_
                      refine lf_iconst lf_c2 ?_
                      refine lf_icmp_ne h (fun h => ?_) (fun h => ?_)
                      · refine lf_blk B_Mod_lawLine_150 ?_
                        refine lf_iconst lf_c0 ?_
                        refine lf_end ?_
                        refine lf_blk B_Mod_lawLine_151 ?_
                        refine lf_iadd ?_
                        refine lf_putf (ci := 10) (k := 16) h lf_a389 rfl (by decide) rfl rfl rfl ?_
                        intro s13 h
                        cases h
                        exact lf_ret ⟨rfl, rfl, rfl⟩
                      · refine lf_iload rfl ?_
                        refine lf_goto ?_
                        refine lf_blk B_Mod_lawLine_151 ?_
                        refine lf_iadd ?_
                        refine lf_putf (ci := 10) (k := 16) h lf_a389 rfl (by decide) rfl rfl rfl ?_
                        intro s14 h
                        cases h
                        exact lf_ret ⟨rfl, rfl, rfl⟩
                  · refine lf_iload rfl ?_
                    refine lf_goto ?_
                    refine lf_blk B_Mod_lawLine_132 ?_
                    refine lf_iadd ?_
                    refine lf_putf (ci := 10) (k := 15) h lf_a389 rfl (by decide) rfl rfl rfl ?_
                    intro s15 h
                    refine lf_aload rfl ?_
                    refine lf_dupr ?_
                    refine lf_getf (ci := 10) (k := 16) lf_a389 rfl (by decide) rfl ?_
                    refine lf_iload rfl ?_
                    refine lf_iconst lf_c2 ?_
                    refine lf_icmp_ne h (fun h => ?_) (fun h => ?_)
                    · refine lf_blk B_Mod_lawLine_150 ?_
                      refine lf_iconst lf_c0 ?_
                      refine lf_end ?_
                      refine lf_blk B_Mod_lawLine_151 ?_
                      refine lf_iadd ?_
                      refine lf_putf (ci := 10) (k := 16) h lf_a389 rfl (by decide) rfl rfl rfl ?_
                      intro s16 h
                      cases h
                      exact lf_ret ⟨rfl, rfl, rfl⟩
                    · refine lf_iload rfl ?_
                      refine lf_goto ?_
                      refine lf_blk B_Mod_lawLine_151 ?_
                      refine lf_iadd ?_
                      refine lf_putf (ci := 10) (k := 16) h lf_a389 rfl (by decide) rfl rfl rfl ?_
                      intro s17 h
                      cases h
                      exact lf_ret ⟨rfl, rfl, rfl⟩
                · refine lf_end ?_
                  refine lf_blk B_Mod_lawLine_107 ?_
                  cases h
                  exact lf_ret ⟨rfl, rfl, rfl⟩
            · refine lf_aload rfl ?_
              refine lf_callVWb (as := []) (rest := []) h rfl rfl lf_a389 rfl (Nat.le_trans (by decide) hd) rfl rfl (fun p18 h9 => s_Mod_some h9) ?_
              intro p18 h
              refine lf_ifb_eq h (fun h => ?_) (fun h => ?_)
              · refine lf_blk B_Mod_lawLine_93 ?_
                refine lf_iconst lf_c0 ?_
                refine lf_end ?_
                refine lf_blk B_Mod_lawLine_94 ?_
                refine lf_istore (L := fun y19 => [.ref 389, .int y4, .int y6, .int y19]) h rfl rfl (fun _ => rfl) ?_
                intro y19 h
                refine lf_aload rfl ?_
                refine lf_getf (ci := 10) (k := 12) lf_a389 rfl (by decide) rfl ?_
                refine lf_iconst lf_cm1 ?_
                refine lf_icmp_ne h (fun h => ?_) (fun h => ?_)
                · refine lf_blk B_Mod_lawLine_107 ?_
                  cases h
                  exact lf_ret ⟨rfl, rfl, rfl⟩
                · refine lf_iload rfl ?_
                  refine lf_if_ne h (fun h => ?_) (fun h => ?_)
                  · refine lf_blk B_Mod_lawLine_108 ?_
                    refine lf_aload rfl ?_
                    refine lf_dupr ?_
                    refine lf_getf (ci := 10) (k := 15) lf_a389 rfl (by decide) rfl ?_
                    refine lf_iload rfl ?_
                    refine lf_if_ne h (fun h => ?_) (fun h => ?_)
                    · refine lf_blk B_Mod_lawLine_121 ?_
                      refine lf_iload rfl ?_
                      refine lf_iconst lf_c1 ?_
                      refine lf_icmp_ne h (fun h => ?_) (fun h => ?_)
                      · refine lf_blk B_Mod_lawLine_131 ?_
                        refine lf_iconst lf_c0 ?_
                        refine lf_end ?_
                        refine lf_blk B_Mod_lawLine_132 ?_
                        refine lf_iadd ?_
                        refine lf_putf (ci := 10) (k := 15) h lf_a389 rfl (by decide) rfl rfl rfl ?_
                        intro s20 h
                        refine lf_aload rfl ?_
                        refine lf_dupr ?_
                        refine lf_getf (ci := 10) (k := 16) lf_a389 rfl (by decide) rfl ?_
                        refine lf_iload rfl ?_
                        refine lf_iconst lf_c2 ?_
                        refine lf_icmp_ne h (fun h => ?_) (fun h => ?_)
                        · refine lf_blk B_Mod_lawLine_150 ?_
                          refine lf_iconst lf_c0 ?_
                          refine lf_end ?_
                          refine lf_blk B_Mod_lawLine_151 ?_
                          refine lf_iadd ?_
                          refine lf_putf (ci := 10) (k := 16) h lf_a389 rfl (by decide) rfl rfl rfl ?_
                          intro s21 h
                          cases h
                          exact lf_ret ⟨rfl, rfl, rfl⟩
                        · refine lf_iload rfl ?_
                          refine lf_goto ?_
                          refine lf_blk B_Mod_lawLine_151 ?_
                          refine lf_iadd ?_
                          refine lf_putf (ci := 10) (k := 16) h lf_a389 rfl (by decide) rfl rfl rfl ?_
                          intro s22 h
                          cases h
                          exact lf_ret ⟨rfl, rfl, rfl⟩
                      · refine lf_iload rfl ?_
                        refine lf_ineg ?_
                        refine lf_goto ?_
                        refine lf_blk B_Mod_lawLine_132 ?_
                        refine lf_iadd ?_
                        refine lf_putf (ci := 10) (k := 15) h lf_a389 rfl (by decide) rfl rfl rfl ?_
                        intro s23 h
                        refine lf_aload rfl ?_
                        refine lf_dupr ?_
                        refine lf_getf (ci := 10) (k := 16) lf_a389 rfl (by decide) rfl ?_
                        refine lf_iload rfl ?_
                        refine lf_iconst lf_c2 ?_
                        refine lf_icmp_ne h (fun h => ?_) (fun h => ?_)
                        · refine lf_blk B_Mod_lawLine_150 ?_
                          refine lf_iconst lf_c0 ?_
                          refine lf_end ?_
                          refine lf_blk B_Mod_lawLine_151 ?_
                          refine lf_iadd ?_
                          refine lf_putf (ci := 10) (k := 16) h lf_a389 rfl (by decide) rfl rfl rfl ?_
                          intro s24 h
                          cases h
                          exact lf_ret ⟨rfl, rfl, rfl⟩
                        · refine lf_iload rfl ?_
                          refine lf_goto ?_
                          refine lf_blk B_Mod_lawLine_151 ?_
                          refine lf_iadd ?_
                          refine lf_putf (ci := 10) (k := 16) h lf_a389 rfl (by decide) rfl rfl rfl ?_
                          intro s25 h
                          cases h
                          exact lf_ret ⟨rfl, rfl, rfl⟩
                    · refine lf_iload rfl ?_
                      refine lf_goto ?_
                      refine lf_blk B_Mod_lawLine_132 ?_
                      refine lf_iadd ?_
                      refine lf_putf (ci := 10) (k := 15) h lf_a389 rfl (by decide) rfl rfl rfl ?_
                      intro s26 h
                      refine lf_aload rfl ?_
                      refine lf_dupr ?_
                      refine lf_getf (ci := 10) (k := 16) lf_a389 rfl (by decide) rfl ?_
                      refine lf_iload rfl ?_
                      refine lf_iconst lf_c2 ?_
                      refine lf_icmp_ne h (fun h => ?_) (fun h => ?_)
                      · refine lf_blk B_Mod_lawLine_150 ?_
                        refine lf_iconst lf_c0 ?_
                        refine lf_end ?_
                        refine lf_blk B_Mod_lawLine_151 ?_
                        refine lf_iadd ?_
                        refine lf_putf (ci := 10) (k := 16) h lf_a389 rfl (by decide) rfl rfl rfl ?_
                        intro s27 h
                        cases h
                        exact lf_ret ⟨rfl, rfl, rfl⟩
                      · refine lf_iload rfl ?_
                        refine lf_goto ?_
                        refine lf_blk B_Mod_lawLine_151 ?_
                        refine lf_iadd ?_
                        refine lf_putf (ci := 10) (k := 16) h lf_a389 rfl (by decide) rfl rfl rfl ?_
                        intro s28 h
                        cases h
                        exact lf_ret ⟨rfl, rfl, rfl⟩
                  · refine lf_end ?_
                    refine lf_blk B_Mod_lawLine_107 ?_
                    cases h
                    exact lf_ret ⟨rfl, rfl, rfl⟩
              · refine lf_end ?_
                refine lf_blk B_Mod_lawLine_89 ?_
                refine lf_iconst lf_c1 ?_
                refine lf_goto ?_
                refine lf_blk B_Mod_lawLine_94 ?_
                refine lf_istore (L := fun y29 => [.ref 389, .int y4, .int y6, .int y29]) h rfl rfl (fun _ => rfl) ?_
                intro y29 h
                refine lf_aload rfl ?_
                refine lf_getf (ci := 10) (k := 12) lf_a389 rfl (by decide) rfl ?_
                refine lf_iconst lf_cm1 ?_
                refine lf_icmp_ne h (fun h => ?_) (fun h => ?_)
                · refine lf_blk B_Mod_lawLine_107 ?_
                  cases h
                  exact lf_ret ⟨rfl, rfl, rfl⟩
                · refine lf_iload rfl ?_
                  refine lf_if_ne h (fun h => ?_) (fun h => ?_)
                  · refine lf_blk B_Mod_lawLine_108 ?_
                    refine lf_aload rfl ?_
                    refine lf_dupr ?_
                    refine lf_getf (ci := 10) (k := 15) lf_a389 rfl (by decide) rfl ?_
                    refine lf_iload rfl ?_
                    refine lf_if_ne h (fun h => ?_) (fun h => ?_)
                    · refine lf_blk B_Mod_lawLine_121 ?_
                      refine lf_iload rfl ?_
                      refine lf_iconst lf_c1 ?_
                      refine lf_icmp_ne h (fun h => ?_) (fun h => ?_)
                      · refine lf_blk B_Mod_lawLine_131 ?_
                        refine lf_iconst lf_c0 ?_
                        refine lf_end ?_
                        refine lf_blk B_Mod_lawLine_132 ?_
                        refine lf_iadd ?_
                        refine lf_putf (ci := 10) (k := 15) h lf_a389 rfl (by decide) rfl rfl rfl ?_
                        intro s30 h
                        refine lf_aload rfl ?_
                        refine lf_dupr ?_
                        refine lf_getf (ci := 10) (k := 16) lf_a389 rfl (by decide) rfl ?_
                        refine lf_iload rfl ?_
                        refine lf_iconst lf_c2 ?_
                        refine lf_icmp_ne h (fun h => ?_) (fun h => ?_)
                        · refine lf_blk B_Mod_lawLine_150 ?_
                          refine lf_iconst lf_c0 ?_
                          refine lf_end ?_
                          refine lf_blk B_Mod_lawLine_151 ?_
                          refine lf_iadd ?_
                          refine lf_putf (ci := 10) (k := 16) h lf_a389 rfl (by decide) rfl rfl rfl ?_
                          intro s31 h
                          cases h
                          exact lf_ret ⟨rfl, rfl, rfl⟩
                        · refine lf_iload rfl ?_
                          refine lf_goto ?_
                          refine lf_blk B_Mod_lawLine_151 ?_
                          refine lf_iadd ?_
                          refine lf_putf (ci := 10) (k := 16) h lf_a389 rfl (by decide) rfl rfl rfl ?_
                          intro s32 h
                          cases h
                          exact lf_ret ⟨rfl, rfl, rfl⟩
                      · refine lf_iload rfl ?_
                        refine lf_ineg ?_
                        refine lf_goto ?_
                        refine lf_blk B_Mod_lawLine_132 ?_
                        refine lf_iadd ?_
                        refine lf_putf (ci := 10) (k := 15) h lf_a389 rfl (by decide) rfl rfl rfl ?_
                        intro s33 h
                        refine lf_aload rfl ?_
                        refine lf_dupr ?_
                        refine lf_getf (ci := 10) (k := 16) lf_a389 rfl (by decide) rfl ?_
                        refine lf_iload rfl ?_
                        refine lf_iconst lf_c2 ?_
                        refine lf_icmp_ne h (fun h => ?_) (fun h => ?_)
                        · refine lf_blk B_Mod_lawLine_150 ?_
                          refine lf_iconst lf_c0 ?_
                          refine lf_end ?_
                          refine lf_blk B_Mod_lawLine_151 ?_
                          refine lf_iadd ?_
                          refine lf_putf (ci := 10) (k := 16) h lf_a389 rfl (by decide) rfl rfl rfl ?_
                          intro s34 h
                          cases h
                          exact lf_ret ⟨rfl, rfl, rfl⟩
                        · refine lf_iload rfl ?_
                          refine lf_goto ?_
                          refine lf_blk B_Mod_lawLine_151 ?_
                          refine lf_iadd ?_
                          refine lf_putf (ci := 10) (k := 16) h lf_a389 rfl (by decide) rfl rfl rfl ?_
                          intro s35 h
                          cases h
                          exact lf_ret ⟨rfl, rfl, rfl⟩
                    · refine lf_iload rfl ?_
                      refine lf_goto ?_
                      refine lf_blk B_Mod_lawLine_132 ?_
                      refine lf_iadd ?_
                      refine lf_putf (ci := 10) (k := 15) h lf_a389 rfl (by decide) rfl rfl rfl ?_
                      intro s36 h
                      refine lf_aload rfl ?_
                      refine lf_dupr ?_
                      refine lf_getf (ci := 10) (k := 16) lf_a389 rfl (by decide) rfl ?_
                      refine lf_iload rfl ?_
                      refine lf_iconst lf_c2 ?_
                      refine lf_icmp_ne h (fun h => ?_) (fun h => ?_)
                      · refine lf_blk B_Mod_lawLine_150 ?_
                        refine lf_iconst lf_c0 ?_
                        refine lf_end ?_
                        refine lf_blk B_Mod_lawLine_151 ?_
                        refine lf_iadd ?_
                        refine lf_putf (ci := 10) (k := 16) h lf_a389 rfl (by decide) rfl rfl rfl ?_
                        intro s37 h
                        cases h
                        exact lf_ret ⟨rfl, rfl, rfl⟩
                      · refine lf_iload rfl ?_
                        refine lf_goto ?_
                        refine lf_blk B_Mod_lawLine_151 ?_
                        refine lf_iadd ?_
                        refine lf_putf (ci := 10) (k := 16) h lf_a389 rfl (by decide) rfl rfl rfl ?_
                        intro s38 h
                        cases h
                        exact lf_ret ⟨rfl, rfl, rfl⟩
                  · refine lf_end ?_
                    refine lf_blk B_Mod_lawLine_107 ?_
                    cases h
                    exact lf_ret ⟨rfl, rfl, rfl⟩
          · cases h
            exact lf_ret ⟨rfl, rfl, rfl⟩
        · refine lf_aload rfl ?_
          refine lf_aload rfl ?_
          refine lf_getf (ci := 10) (k := 11) lf_a389 rfl (by decide) rfl ?_
          refine lf_callVWu (as := [.int (p3.2.1 389 11)]) (rest := []) h rfl rfl lf_a389 rfl (Nat.le_trans (by decide) hd) rfl rfl (fun p39 h9 => s_Mod_wrong h9) ?_
          intro p39 h
          cases h
          exact lf_ret ⟨rfl, rfl, rfl⟩
      · refine lf_iconst lf_c2 ?_
        refine lf_goto ?_
        refine lf_blk B_Mod_lawLine_40 ?_
        refine lf_istore (L := fun y40 => [.ref 389, .int y40, mj_U, mj_U]) h rfl rfl (fun _ => rfl) ?_
        intro y40 h
        refine lf_iload rfl ?_
        refine lf_iconst lf_cm1 ?_
        refine lf_icmp_ne h (fun h => ?_) (fun h => ?_)
        · refine lf_blk B_Mod_lawLine_55 ?_
          refine lf_aload rfl ?_
          refine lf_iconst lf_c0 ?_
          refine lf_iconst lf_c99 ?_
          refine lf_callVWi (as := [.int (0 : Int32), .int (99 : Int32)]) (rest := []) h rfl rfl lf_a389 rfl (Nat.le_trans (by decide) hd) rfl rfl (fun p41 h9 => s_Mod_figures h9) ?_
          intro p41 h
          refine lf_istore (L := fun y42 => [.ref 389, .int y40, .int y42, mj_U]) h rfl rfl (fun _ => rfl) ?_
          intro y42 h
          refine lf_aload rfl ?_
          refine lf_getf (ci := 10) (k := 12) lf_a389 rfl (by decide) rfl ?_
          refine lf_iconst lf_cm1 ?_
          refine lf_icmp_eq h (fun h => ?_) (fun h => ?_)
          · refine lf_blk B_Mod_lawLine_72 ?_
            refine lf_aload rfl ?_
            refine lf_ldc ?_
            refine lf_callVWb (as := [.ref (mj_SC + 1 + 31)]) (rest := []) h rfl rfl lf_a389 rfl (Nat.le_trans (by decide) hd) rfl rfl (fun p43 h9 => s_Mod_has (by decide : 31 < 71) h9) ?_
            intro p43 h
            refine lf_ifb_eq h (fun h => ?_) (fun h => ?_)
            · refine lf_blk B_Mod_lawLine_89 ?_
              refine lf_iconst lf_c1 ?_
              refine lf_goto ?_
              refine lf_blk B_Mod_lawLine_94 ?_
              refine lf_istore (L := fun y44 => [.ref 389, .int y40, .int y42, .int y44]) h rfl rfl (fun _ => rfl) ?_
              intro y44 h
              refine lf_aload rfl ?_
              refine lf_getf (ci := 10) (k := 12) lf_a389 rfl (by decide) rfl ?_
              refine lf_iconst lf_cm1 ?_
              refine lf_icmp_ne h (fun h => ?_) (fun h => ?_)
              · refine lf_blk B_Mod_lawLine_107 ?_
                cases h
                exact lf_ret ⟨rfl, rfl, rfl⟩
              · refine lf_iload rfl ?_
                refine lf_if_ne h (fun h => ?_) (fun h => ?_)
                · refine lf_blk B_Mod_lawLine_108 ?_
                  refine lf_aload rfl ?_
                  refine lf_dupr ?_
                  refine lf_getf (ci := 10) (k := 15) lf_a389 rfl (by decide) rfl ?_
                  refine lf_iload rfl ?_
                  refine lf_if_ne h (fun h => ?_) (fun h => ?_)
                  · refine lf_blk B_Mod_lawLine_121 ?_
                    refine lf_iload rfl ?_
                    refine lf_iconst lf_c1 ?_
                    refine lf_icmp_ne h (fun h => ?_) (fun h => ?_)
                    · refine lf_blk B_Mod_lawLine_131 ?_
                      refine lf_iconst lf_c0 ?_
                      refine lf_end ?_
                      refine lf_blk B_Mod_lawLine_132 ?_
                      refine lf_iadd ?_
                      refine lf_putf (ci := 10) (k := 15) h lf_a389 rfl (by decide) rfl rfl rfl ?_
                      intro s45 h
                      refine lf_aload rfl ?_
                      refine lf_dupr ?_
                      refine lf_getf (ci := 10) (k := 16) lf_a389 rfl (by decide) rfl ?_
                      refine lf_iload rfl ?_
                      refine lf_iconst lf_c2 ?_
                      refine lf_icmp_ne h (fun h => ?_) (fun h => ?_)
                      · refine lf_blk B_Mod_lawLine_150 ?_
                        refine lf_iconst lf_c0 ?_
                        refine lf_end ?_
                        refine lf_blk B_Mod_lawLine_151 ?_
                        refine lf_iadd ?_
                        refine lf_putf (ci := 10) (k := 16) h lf_a389 rfl (by decide) rfl rfl rfl ?_
                        intro s46 h
                        cases h
                        exact lf_ret ⟨rfl, rfl, rfl⟩
                      · refine lf_iload rfl ?_
                        refine lf_goto ?_
                        refine lf_blk B_Mod_lawLine_151 ?_
                        refine lf_iadd ?_
                        refine lf_putf (ci := 10) (k := 16) h lf_a389 rfl (by decide) rfl rfl rfl ?_
                        intro s47 h
                        cases h
                        exact lf_ret ⟨rfl, rfl, rfl⟩
                    · refine lf_iload rfl ?_
                      refine lf_ineg ?_
                      refine lf_goto ?_
                      refine lf_blk B_Mod_lawLine_132 ?_
                      refine lf_iadd ?_
                      refine lf_putf (ci := 10) (k := 15) h lf_a389 rfl (by decide) rfl rfl rfl ?_
                      intro s48 h
                      refine lf_aload rfl ?_
                      refine lf_dupr ?_
                      refine lf_getf (ci := 10) (k := 16) lf_a389 rfl (by decide) rfl ?_
                      refine lf_iload rfl ?_
                      refine lf_iconst lf_c2 ?_
                      refine lf_icmp_ne h (fun h => ?_) (fun h => ?_)
                      · refine lf_blk B_Mod_lawLine_150 ?_
                        refine lf_iconst lf_c0 ?_
                        refine lf_end ?_
                        refine lf_blk B_Mod_lawLine_151 ?_
                        refine lf_iadd ?_
                        refine lf_putf (ci := 10) (k := 16) h lf_a389 rfl (by decide) rfl rfl rfl ?_
                        intro s49 h
                        cases h
                        exact lf_ret ⟨rfl, rfl, rfl⟩
                      · refine lf_iload rfl ?_
                        refine lf_goto ?_
                        refine lf_blk B_Mod_lawLine_151 ?_
                        refine lf_iadd ?_
                        refine lf_putf (ci := 10) (k := 16) h lf_a389 rfl (by decide) rfl rfl rfl ?_
                        intro s50 h
                        cases h
                        exact lf_ret ⟨rfl, rfl, rfl⟩
                  · refine lf_iload rfl ?_
                    refine lf_goto ?_
                    refine lf_blk B_Mod_lawLine_132 ?_
                    refine lf_iadd ?_
                    refine lf_putf (ci := 10) (k := 15) h lf_a389 rfl (by decide) rfl rfl rfl ?_
                    intro s51 h
                    refine lf_aload rfl ?_
                    refine lf_dupr ?_
                    refine lf_getf (ci := 10) (k := 16) lf_a389 rfl (by decide) rfl ?_
                    refine lf_iload rfl ?_
                    refine lf_iconst lf_c2 ?_
                    refine lf_icmp_ne h (fun h => ?_) (fun h => ?_)
                    · refine lf_blk B_Mod_lawLine_150 ?_
                      refine lf_iconst lf_c0 ?_
                      refine lf_end ?_
                      refine lf_blk B_Mod_lawLine_151 ?_
                      refine lf_iadd ?_
                      refine lf_putf (ci := 10) (k := 16) h lf_a389 rfl (by decide) rfl rfl rfl ?_
                      intro s52 h
                      cases h
                      exact lf_ret ⟨rfl, rfl, rfl⟩
                    · refine lf_iload rfl ?_
                      refine lf_goto ?_
                      refine lf_blk B_Mod_lawLine_151 ?_
                      refine lf_iadd ?_
                      refine lf_putf (ci := 10) (k := 16) h lf_a389 rfl (by decide) rfl rfl rfl ?_
                      intro s53 h
                      cases h
                      exact lf_ret ⟨rfl, rfl, rfl⟩
                · refine lf_end ?_
                  refine lf_blk B_Mod_lawLine_107 ?_
                  cases h
                  exact lf_ret ⟨rfl, rfl, rfl⟩
            · refine lf_aload rfl ?_
              refine lf_callVWb (as := []) (rest := []) h rfl rfl lf_a389 rfl (Nat.le_trans (by decide) hd) rfl rfl (fun p54 h9 => s_Mod_some h9) ?_
              intro p54 h
              refine lf_ifb_eq h (fun h => ?_) (fun h => ?_)
              · refine lf_blk B_Mod_lawLine_93 ?_
                refine lf_iconst lf_c0 ?_
                refine lf_end ?_
                refine lf_blk B_Mod_lawLine_94 ?_
                refine lf_istore (L := fun y55 => [.ref 389, .int y40, .int y42, .int y55]) h rfl rfl (fun _ => rfl) ?_
                intro y55 h
                refine lf_aload rfl ?_
                refine lf_getf (ci := 10) (k := 12) lf_a389 rfl (by decide) rfl ?_
                refine lf_iconst lf_cm1 ?_
                refine lf_icmp_ne h (fun h => ?_) (fun h => ?_)
                · refine lf_blk B_Mod_lawLine_107 ?_
                  cases h
                  exact lf_ret ⟨rfl, rfl, rfl⟩
                · refine lf_iload rfl ?_
                  refine lf_if_ne h (fun h => ?_) (fun h => ?_)
                  · refine lf_blk B_Mod_lawLine_108 ?_
                    refine lf_aload rfl ?_
                    refine lf_dupr ?_
                    refine lf_getf (ci := 10) (k := 15) lf_a389 rfl (by decide) rfl ?_
                    refine lf_iload rfl ?_
                    refine lf_if_ne h (fun h => ?_) (fun h => ?_)
                    · refine lf_blk B_Mod_lawLine_121 ?_
                      refine lf_iload rfl ?_
                      refine lf_iconst lf_c1 ?_
                      refine lf_icmp_ne h (fun h => ?_) (fun h => ?_)
                      · refine lf_blk B_Mod_lawLine_131 ?_
                        refine lf_iconst lf_c0 ?_
                        refine lf_end ?_
                        refine lf_blk B_Mod_lawLine_132 ?_
                        refine lf_iadd ?_
                        refine lf_putf (ci := 10) (k := 15) h lf_a389 rfl (by decide) rfl rfl rfl ?_
                        intro s56 h
                        refine lf_aload rfl ?_
                        refine lf_dupr ?_
                        refine lf_getf (ci := 10) (k := 16) lf_a389 rfl (by decide) rfl ?_
                        refine lf_iload rfl ?_
                        refine lf_iconst lf_c2 ?_
                        refine lf_icmp_ne h (fun h => ?_) (fun h => ?_)
                        · refine lf_blk B_Mod_lawLine_150 ?_
                          refine lf_iconst lf_c0 ?_
                          refine lf_end ?_
                          refine lf_blk B_Mod_lawLine_151 ?_
                          refine lf_iadd ?_
                          refine lf_putf (ci := 10) (k := 16) h lf_a389 rfl (by decide) rfl rfl rfl ?_
                          intro s57 h
                          cases h
                          exact lf_ret ⟨rfl, rfl, rfl⟩
                        · refine lf_iload rfl ?_
                          refine lf_goto ?_
                          refine lf_blk B_Mod_lawLine_151 ?_
                          refine lf_iadd ?_
                          refine lf_putf (ci := 10) (k := 16) h lf_a389 rfl (by decide) rfl rfl rfl ?_
                          intro s58 h
                          cases h
                          exact lf_ret ⟨rfl, rfl, rfl⟩
                      · refine lf_iload rfl ?_
                        refine lf_ineg ?_
                        refine lf_goto ?_
                        refine lf_blk B_Mod_lawLine_132 ?_
                        refine lf_iadd ?_
                        refine lf_putf (ci := 10) (k := 15) h lf_a389 rfl (by decide) rfl rfl rfl ?_
                        intro s59 h
                        refine lf_aload rfl ?_
                        refine lf_dupr ?_
                        refine lf_getf (ci := 10) (k := 16) lf_a389 rfl (by decide) rfl ?_
                        refine lf_iload rfl ?_
                        refine lf_iconst lf_c2 ?_
                        refine lf_icmp_ne h (fun h => ?_) (fun h => ?_)
                        · refine lf_blk B_Mod_lawLine_150 ?_
                          refine lf_iconst lf_c0 ?_
                          refine lf_end ?_
                          refine lf_blk B_Mod_lawLine_151 ?_
                          refine lf_iadd ?_
                          refine lf_putf (ci := 10) (k := 16) h lf_a389 rfl (by decide) rfl rfl rfl ?_
                          intro s60 h
                          cases h
                          exact lf_ret ⟨rfl, rfl, rfl⟩
                        · refine lf_iload rfl ?_
                          refine lf_goto ?_
                          refine lf_blk B_Mod_lawLine_151 ?_
                          refine lf_iadd ?_
                          refine lf_putf (ci := 10) (k := 16) h lf_a389 rfl (by decide) rfl rfl rfl ?_
                          intro s61 h
                          cases h
                          exact lf_ret ⟨rfl, rfl, rfl⟩
                    · refine lf_iload rfl ?_
                      refine lf_goto ?_
                      refine lf_blk B_Mod_lawLine_132 ?_
                      refine lf_iadd ?_
                      refine lf_putf (ci := 10) (k := 15) h lf_a389 rfl (by decide) rfl rfl rfl ?_
                      intro s62 h
                      refine lf_aload rfl ?_
                      refine lf_dupr ?_
                      refine lf_getf (ci := 10) (k := 16) lf_a389 rfl (by decide) rfl ?_
                      refine lf_iload rfl ?_
                      refine lf_iconst lf_c2 ?_
                      refine lf_icmp_ne h (fun h => ?_) (fun h => ?_)
                      · refine lf_blk B_Mod_lawLine_150 ?_
                        refine lf_iconst lf_c0 ?_
                        refine lf_end ?_
                        refine lf_blk B_Mod_lawLine_151 ?_
                        refine lf_iadd ?_
                        refine lf_putf (ci := 10) (k := 16) h lf_a389 rfl (by decide) rfl rfl rfl ?_
                        intro s63 h
                        cases h
                        exact lf_ret ⟨rfl, rfl, rfl⟩
                      · refine lf_iload rfl ?_
                        refine lf_goto ?_
                        refine lf_blk B_Mod_lawLine_151 ?_
                        refine lf_iadd ?_
                        refine lf_putf (ci := 10) (k := 16) h lf_a389 rfl (by decide) rfl rfl rfl ?_
                        intro s64 h
                        cases h
                        exact lf_ret ⟨rfl, rfl, rfl⟩
                  · refine lf_end ?_
                    refine lf_blk B_Mod_lawLine_107 ?_
                    cases h
                    exact lf_ret ⟨rfl, rfl, rfl⟩
              · refine lf_end ?_
                refine lf_blk B_Mod_lawLine_89 ?_
                refine lf_iconst lf_c1 ?_
                refine lf_goto ?_
                refine lf_blk B_Mod_lawLine_94 ?_
                refine lf_istore (L := fun y65 => [.ref 389, .int y40, .int y42, .int y65]) h rfl rfl (fun _ => rfl) ?_
                intro y65 h
                refine lf_aload rfl ?_
                refine lf_getf (ci := 10) (k := 12) lf_a389 rfl (by decide) rfl ?_
                refine lf_iconst lf_cm1 ?_
                refine lf_icmp_ne h (fun h => ?_) (fun h => ?_)
                · refine lf_blk B_Mod_lawLine_107 ?_
                  cases h
                  exact lf_ret ⟨rfl, rfl, rfl⟩
                · refine lf_iload rfl ?_
                  refine lf_if_ne h (fun h => ?_) (fun h => ?_)
                  · refine lf_blk B_Mod_lawLine_108 ?_
                    refine lf_aload rfl ?_
                    refine lf_dupr ?_
                    refine lf_getf (ci := 10) (k := 15) lf_a389 rfl (by decide) rfl ?_
                    refine lf_iload rfl ?_
                    refine lf_if_ne h (fun h => ?_) (fun h => ?_)
                    · refine lf_blk B_Mod_lawLine_121 ?_
                      refine lf_iload rfl ?_
                      refine lf_iconst lf_c1 ?_
                      refine lf_icmp_ne h (fun h => ?_) (fun h => ?_)
                      · refine lf_blk B_Mod_lawLine_131 ?_
                        refine lf_iconst lf_c0 ?_
                        refine lf_end ?_
                        refine lf_blk B_Mod_lawLine_132 ?_
                        refine lf_iadd ?_
                        refine lf_putf (ci := 10) (k := 15) h lf_a389 rfl (by decide) rfl rfl rfl ?_
                        intro s66 h
                        refine lf_aload rfl ?_
                        refine lf_dupr ?_
                        refine lf_getf (ci := 10) (k := 16) lf_a389 rfl (by decide) rfl ?_
                        refine lf_iload rfl ?_
                        refine lf_iconst lf_c2 ?_
                        refine lf_icmp_ne h (fun h => ?_) (fun h => ?_)
                        · refine lf_blk B_Mod_lawLine_150 ?_
                          refine lf_iconst lf_c0 ?_
                          refine lf_end ?_
                          refine lf_blk B_Mod_lawLine_151 ?_
                          refine lf_iadd ?_
                          refine lf_putf (ci := 10) (k := 16) h lf_a389 rfl (by decide) rfl rfl rfl ?_
                          intro s67 h
                          cases h
                          exact lf_ret ⟨rfl, rfl, rfl⟩
                        · refine lf_iload rfl ?_
                          refine lf_goto ?_
                          refine lf_blk B_Mod_lawLine_151 ?_
                          refine lf_iadd ?_
                          refine lf_putf (ci := 10) (k := 16) h lf_a389 rfl (by decide) rfl rfl rfl ?_
                          intro s68 h
                          cases h
                          exact lf_ret ⟨rfl, rfl, rfl⟩
                      · refine lf_iload rfl ?_
                        refine lf_ineg ?_
                        refine lf_goto ?_
                        refine lf_blk B_Mod_lawLine_132 ?_
                        refine lf_iadd ?_
                        refine lf_putf (ci := 10) (k := 15) h lf_a389 rfl (by decide) rfl rfl rfl ?_
                        intro s69 h
                        refine lf_aload rfl ?_
                        refine lf_dupr ?_
                        refine lf_getf (ci := 10) (k := 16) lf_a389 rfl (by decide) rfl ?_
                        refine lf_iload rfl ?_
                        refine lf_iconst lf_c2 ?_
                        refine lf_icmp_ne h (fun h => ?_) (fun h => ?_)
                        · refine lf_blk B_Mod_lawLine_150 ?_
                          refine lf_iconst lf_c0 ?_
                          refine lf_end ?_
                          refine lf_blk B_Mod_lawLine_151 ?_
                          refine lf_iadd ?_
                          refine lf_putf (ci := 10) (k := 16) h lf_a389 rfl (by decide) rfl rfl rfl ?_
                          intro s70 h
                          cases h
                          exact lf_ret ⟨rfl, rfl, rfl⟩
                        · refine lf_iload rfl ?_
                          refine lf_goto ?_
                          refine lf_blk B_Mod_lawLine_151 ?_
                          refine lf_iadd ?_
                          refine lf_putf (ci := 10) (k := 16) h lf_a389 rfl (by decide) rfl rfl rfl ?_
                          intro s71 h
                          cases h
                          exact lf_ret ⟨rfl, rfl, rfl⟩
                    · refine lf_iload rfl ?_
                      refine lf_goto ?_
                      refine lf_blk B_Mod_lawLine_132 ?_
                      refine lf_iadd ?_
                      refine lf_putf (ci := 10) (k := 15) h lf_a389 rfl (by decide) rfl rfl rfl ?_
                      intro s72 h
                      refine lf_aload rfl ?_
                      refine lf_dupr ?_
                      refine lf_getf (ci := 10) (k := 16) lf_a389 rfl (by decide) rfl ?_
                      refine lf_iload rfl ?_
                      refine lf_iconst lf_c2 ?_
                      refine lf_icmp_ne h (fun h => ?_) (fun h => ?_)
                      · refine lf_blk B_Mod_lawLine_150 ?_
                        refine lf_iconst lf_c0 ?_
                        refine lf_end ?_
                        refine lf_blk B_Mod_lawLine_151 ?_
                        refine lf_iadd ?_
                        refine lf_putf (ci := 10) (k := 16) h lf_a389 rfl (by decide) rfl rfl rfl ?_
                        intro s73 h
                        cases h
                        exact lf_ret ⟨rfl, rfl, rfl⟩
                      · refine lf_iload rfl ?_
                        refine lf_goto ?_
                        refine lf_blk B_Mod_lawLine_151 ?_
                        refine lf_iadd ?_
                        refine lf_putf (ci := 10) (k := 16) h lf_a389 rfl (by decide) rfl rfl rfl ?_
                        intro s74 h
                        cases h
                        exact lf_ret ⟨rfl, rfl, rfl⟩
                  · refine lf_end ?_
                    refine lf_blk B_Mod_lawLine_107 ?_
                    cases h
                    exact lf_ret ⟨rfl, rfl, rfl⟩
          · cases h
            exact lf_ret ⟨rfl, rfl, rfl⟩
        · refine lf_aload rfl ?_
          refine lf_aload rfl ?_
          refine lf_getf (ci := 10) (k := 11) lf_a389 rfl (by decide) rfl ?_
          refine lf_callVWu (as := [.int (p3.2.1 389 11)]) (rest := []) h rfl rfl lf_a389 rfl (Nat.le_trans (by decide) hd) rfl rfl (fun p75 h9 => s_Mod_wrong h9) ?_
          intro p75 h
          cases h
          exact lf_ret ⟨rfl, rfl, rfl⟩
    · refine lf_iconst lf_c1 ?_
      refine lf_goto ?_
      refine lf_blk B_Mod_lawLine_40 ?_
      refine lf_istore (L := fun y76 => [.ref 389, .int y76, mj_U, mj_U]) h rfl rfl (fun _ => rfl) ?_
      intro y76 h
      refine lf_iload rfl ?_
      refine lf_iconst lf_cm1 ?_
      refine lf_icmp_ne h (fun h => ?_) (fun h => ?_)
      · refine lf_blk B_Mod_lawLine_55 ?_
        refine lf_aload rfl ?_
        refine lf_iconst lf_c0 ?_
        refine lf_iconst lf_c99 ?_
        refine lf_callVWi (as := [.int (0 : Int32), .int (99 : Int32)]) (rest := []) h rfl rfl lf_a389 rfl (Nat.le_trans (by decide) hd) rfl rfl (fun p77 h9 => s_Mod_figures h9) ?_
        intro p77 h
        refine lf_istore (L := fun y78 => [.ref 389, .int y76, .int y78, mj_U]) h rfl rfl (fun _ => rfl) ?_
        intro y78 h
        refine lf_aload rfl ?_
        refine lf_getf (ci := 10) (k := 12) lf_a389 rfl (by decide) rfl ?_
        refine lf_iconst lf_cm1 ?_
        refine lf_icmp_eq h (fun h => ?_) (fun h => ?_)
        · refine lf_blk B_Mod_lawLine_72 ?_
          refine lf_aload rfl ?_
          refine lf_ldc ?_
          refine lf_callVWb (as := [.ref (mj_SC + 1 + 31)]) (rest := []) h rfl rfl lf_a389 rfl (Nat.le_trans (by decide) hd) rfl rfl (fun p79 h9 => s_Mod_has (by decide : 31 < 71) h9) ?_
          intro p79 h
          refine lf_ifb_eq h (fun h => ?_) (fun h => ?_)
          · refine lf_blk B_Mod_lawLine_89 ?_
            refine lf_iconst lf_c1 ?_
            refine lf_goto ?_
            refine lf_blk B_Mod_lawLine_94 ?_
            refine lf_istore (L := fun y80 => [.ref 389, .int y76, .int y78, .int y80]) h rfl rfl (fun _ => rfl) ?_
            intro y80 h
            refine lf_aload rfl ?_
            refine lf_getf (ci := 10) (k := 12) lf_a389 rfl (by decide) rfl ?_
            refine lf_iconst lf_cm1 ?_
            refine lf_icmp_ne h (fun h => ?_) (fun h => ?_)
            · refine lf_blk B_Mod_lawLine_107 ?_
              cases h
              exact lf_ret ⟨rfl, rfl, rfl⟩
            · refine lf_iload rfl ?_
              refine lf_if_ne h (fun h => ?_) (fun h => ?_)
              · refine lf_blk B_Mod_lawLine_108 ?_
                refine lf_aload rfl ?_
                refine lf_dupr ?_
                refine lf_getf (ci := 10) (k := 15) lf_a389 rfl (by decide) rfl ?_
                refine lf_iload rfl ?_
                refine lf_if_ne h (fun h => ?_) (fun h => ?_)
                · refine lf_blk B_Mod_lawLine_121 ?_
                  refine lf_iload rfl ?_
                  refine lf_iconst lf_c1 ?_
                  refine lf_icmp_ne h (fun h => ?_) (fun h => ?_)
                  · refine lf_blk B_Mod_lawLine_131 ?_
                    refine lf_iconst lf_c0 ?_
                    refine lf_end ?_
                    refine lf_blk B_Mod_lawLine_132 ?_
                    refine lf_iadd ?_
                    refine lf_putf (ci := 10) (k := 15) h lf_a389 rfl (by decide) rfl rfl rfl ?_
                    intro s81 h
                    refine lf_aload rfl ?_
                    refine lf_dupr ?_
                    refine lf_getf (ci := 10) (k := 16) lf_a389 rfl (by decide) rfl ?_
                    refine lf_iload rfl ?_
                    refine lf_iconst lf_c2 ?_
                    refine lf_icmp_ne h (fun h => ?_) (fun h => ?_)
                    · refine lf_blk B_Mod_lawLine_150 ?_
                      refine lf_iconst lf_c0 ?_
                      refine lf_end ?_
                      refine lf_blk B_Mod_lawLine_151 ?_
                      refine lf_iadd ?_
                      refine lf_putf (ci := 10) (k := 16) h lf_a389 rfl (by decide) rfl rfl rfl ?_
                      intro s82 h
                      cases h
                      exact lf_ret ⟨rfl, rfl, rfl⟩
                    · refine lf_iload rfl ?_
                      refine lf_goto ?_
                      refine lf_blk B_Mod_lawLine_151 ?_
                      refine lf_iadd ?_
                      refine lf_putf (ci := 10) (k := 16) h lf_a389 rfl (by decide) rfl rfl rfl ?_
                      intro s83 h
                      cases h
                      exact lf_ret ⟨rfl, rfl, rfl⟩
                  · refine lf_iload rfl ?_
                    refine lf_ineg ?_
                    refine lf_goto ?_
                    refine lf_blk B_Mod_lawLine_132 ?_
                    refine lf_iadd ?_
                    refine lf_putf (ci := 10) (k := 15) h lf_a389 rfl (by decide) rfl rfl rfl ?_
                    intro s84 h
                    refine lf_aload rfl ?_
                    refine lf_dupr ?_
                    refine lf_getf (ci := 10) (k := 16) lf_a389 rfl (by decide) rfl ?_
                    refine lf_iload rfl ?_
                    refine lf_iconst lf_c2 ?_
                    refine lf_icmp_ne h (fun h => ?_) (fun h => ?_)
                    · refine lf_blk B_Mod_lawLine_150 ?_
                      refine lf_iconst lf_c0 ?_
                      refine lf_end ?_
                      refine lf_blk B_Mod_lawLine_151 ?_
                      refine lf_iadd ?_
                      refine lf_putf (ci := 10) (k := 16) h lf_a389 rfl (by decide) rfl rfl rfl ?_
                      intro s85 h
                      cases h
                      exact lf_ret ⟨rfl, rfl, rfl⟩
                    · refine lf_iload rfl ?_
                      refine lf_goto ?_
                      refine lf_blk B_Mod_lawLine_151 ?_
                      refine lf_iadd ?_
                      refine lf_putf (ci := 10) (k := 16) h lf_a389 rfl (by decide) rfl rfl rfl ?_
                      intro s86 h
                      cases h
                      exact lf_ret ⟨rfl, rfl, rfl⟩
                · refine lf_iload rfl ?_
                  refine lf_goto ?_
                  refine lf_blk B_Mod_lawLine_132 ?_
                  refine lf_iadd ?_
                  refine lf_putf (ci := 10) (k := 15) h lf_a389 rfl (by decide) rfl rfl rfl ?_
                  intro s87 h
                  refine lf_aload rfl ?_
                  refine lf_dupr ?_
                  refine lf_getf (ci := 10) (k := 16) lf_a389 rfl (by decide) rfl ?_
                  refine lf_iload rfl ?_
                  refine lf_iconst lf_c2 ?_
                  refine lf_icmp_ne h (fun h => ?_) (fun h => ?_)
                  · refine lf_blk B_Mod_lawLine_150 ?_
                    refine lf_iconst lf_c0 ?_
                    refine lf_end ?_
                    refine lf_blk B_Mod_lawLine_151 ?_
                    refine lf_iadd ?_
                    refine lf_putf (ci := 10) (k := 16) h lf_a389 rfl (by decide) rfl rfl rfl ?_
                    intro s88 h
                    cases h
                    exact lf_ret ⟨rfl, rfl, rfl⟩
                  · refine lf_iload rfl ?_
                    refine lf_goto ?_
                    refine lf_blk B_Mod_lawLine_151 ?_
                    refine lf_iadd ?_
                    refine lf_putf (ci := 10) (k := 16) h lf_a389 rfl (by decide) rfl rfl rfl ?_
                    intro s89 h
                    cases h
                    exact lf_ret ⟨rfl, rfl, rfl⟩
              · refine lf_end ?_
                refine lf_blk B_Mod_lawLine_107 ?_
                cases h
                exact lf_ret ⟨rfl, rfl, rfl⟩
          · refine lf_aload rfl ?_
            refine lf_callVWb (as := []) (rest := []) h rfl rfl lf_a389 rfl (Nat.le_trans (by decide) hd) rfl rfl (fun p90 h9 => s_Mod_some h9) ?_
            intro p90 h
            refine lf_ifb_eq h (fun h => ?_) (fun h => ?_)
            · refine lf_blk B_Mod_lawLine_93 ?_
              refine lf_iconst lf_c0 ?_
              refine lf_end ?_
              refine lf_blk B_Mod_lawLine_94 ?_
              refine lf_istore (L := fun y91 => [.ref 389, .int y76, .int y78, .int y91]) h rfl rfl (fun _ => rfl) ?_
              intro y91 h
              refine lf_aload rfl ?_
              refine lf_getf (ci := 10) (k := 12) lf_a389 rfl (by decide) rfl ?_
              refine lf_iconst lf_cm1 ?_
              refine lf_icmp_ne h (fun h => ?_) (fun h => ?_)
              · refine lf_blk B_Mod_lawLine_107 ?_
                cases h
                exact lf_ret ⟨rfl, rfl, rfl⟩
              · refine lf_iload rfl ?_
                refine lf_if_ne h (fun h => ?_) (fun h => ?_)
                · refine lf_blk B_Mod_lawLine_108 ?_
                  refine lf_aload rfl ?_
                  refine lf_dupr ?_
                  refine lf_getf (ci := 10) (k := 15) lf_a389 rfl (by decide) rfl ?_
                  refine lf_iload rfl ?_
                  refine lf_if_ne h (fun h => ?_) (fun h => ?_)
                  · refine lf_blk B_Mod_lawLine_121 ?_
                    refine lf_iload rfl ?_
                    refine lf_iconst lf_c1 ?_
                    refine lf_icmp_ne h (fun h => ?_) (fun h => ?_)
                    · refine lf_blk B_Mod_lawLine_131 ?_
                      refine lf_iconst lf_c0 ?_
                      refine lf_end ?_
                      refine lf_blk B_Mod_lawLine_132 ?_
                      refine lf_iadd ?_
                      refine lf_putf (ci := 10) (k := 15) h lf_a389 rfl (by decide) rfl rfl rfl ?_
                      intro s92 h
                      refine lf_aload rfl ?_
                      refine lf_dupr ?_
                      refine lf_getf (ci := 10) (k := 16) lf_a389 rfl (by decide) rfl ?_
                      refine lf_iload rfl ?_
                      refine lf_iconst lf_c2 ?_
                      refine lf_icmp_ne h (fun h => ?_) (fun h => ?_)
                      · refine lf_blk B_Mod_lawLine_150 ?_
                        refine lf_iconst lf_c0 ?_
                        refine lf_end ?_
                        refine lf_blk B_Mod_lawLine_151 ?_
                        refine lf_iadd ?_
                        refine lf_putf (ci := 10) (k := 16) h lf_a389 rfl (by decide) rfl rfl rfl ?_
                        intro s93 h
                        cases h
                        exact lf_ret ⟨rfl, rfl, rfl⟩
                      · refine lf_iload rfl ?_
                        refine lf_goto ?_
                        refine lf_blk B_Mod_lawLine_151 ?_
                        refine lf_iadd ?_
                        refine lf_putf (ci := 10) (k := 16) h lf_a389 rfl (by decide) rfl rfl rfl ?_
                        intro s94 h
                        cases h
                        exact lf_ret ⟨rfl, rfl, rfl⟩
                    · refine lf_iload rfl ?_
                      refine lf_ineg ?_
                      refine lf_goto ?_
                      refine lf_blk B_Mod_lawLine_132 ?_
                      refine lf_iadd ?_
                      refine lf_putf (ci := 10) (k := 15) h lf_a389 rfl (by decide) rfl rfl rfl ?_
                      intro s95 h
                      refine lf_aload rfl ?_
                      refine lf_dupr ?_
                      refine lf_getf (ci := 10) (k := 16) lf_a389 rfl (by decide) rfl ?_
                      refine lf_iload rfl ?_
                      refine lf_iconst lf_c2 ?_
                      refine lf_icmp_ne h (fun h => ?_) (fun h => ?_)
                      · refine lf_blk B_Mod_lawLine_150 ?_
                        refine lf_iconst lf_c0 ?_
                        refine lf_end ?_
                        refine lf_blk B_Mod_lawLine_151 ?_
                        refine lf_iadd ?_
                        refine lf_putf (ci := 10) (k := 16) h lf_a389 rfl (by decide) rfl rfl rfl ?_
                        intro s96 h
                        cases h
                        exact lf_ret ⟨rfl, rfl, rfl⟩
                      · refine lf_iload rfl ?_
                        refine lf_goto ?_
                        refine lf_blk B_Mod_lawLine_151 ?_
                        refine lf_iadd ?_
                        refine lf_putf (ci := 10) (k := 16) h lf_a389 rfl (by decide) rfl rfl rfl ?_
                        intro s97 h
                        cases h
                        exact lf_ret ⟨rfl, rfl, rfl⟩
                  · refine lf_iload rfl ?_
                    refine lf_goto ?_
                    refine lf_blk B_Mod_lawLine_132 ?_
                    refine lf_iadd ?_
                    refine lf_putf (ci := 10) (k := 15) h lf_a389 rfl (by decide) rfl rfl rfl ?_
                    intro s98 h
                    refine lf_aload rfl ?_
                    refine lf_dupr ?_
                    refine lf_getf (ci := 10) (k := 16) lf_a389 rfl (by decide) rfl ?_
                    refine lf_iload rfl ?_
                    refine lf_iconst lf_c2 ?_
                    refine lf_icmp_ne h (fun h => ?_) (fun h => ?_)
                    · refine lf_blk B_Mod_lawLine_150 ?_
                      refine lf_iconst lf_c0 ?_
                      refine lf_end ?_
                      refine lf_blk B_Mod_lawLine_151 ?_
                      refine lf_iadd ?_
                      refine lf_putf (ci := 10) (k := 16) h lf_a389 rfl (by decide) rfl rfl rfl ?_
                      intro s99 h
                      cases h
                      exact lf_ret ⟨rfl, rfl, rfl⟩
                    · refine lf_iload rfl ?_
                      refine lf_goto ?_
                      refine lf_blk B_Mod_lawLine_151 ?_
                      refine lf_iadd ?_
                      refine lf_putf (ci := 10) (k := 16) h lf_a389 rfl (by decide) rfl rfl rfl ?_
                      intro s100 h
                      cases h
                      exact lf_ret ⟨rfl, rfl, rfl⟩
                · refine lf_end ?_
                  refine lf_blk B_Mod_lawLine_107 ?_
                  cases h
                  exact lf_ret ⟨rfl, rfl, rfl⟩
            · refine lf_end ?_
              refine lf_blk B_Mod_lawLine_89 ?_
              refine lf_iconst lf_c1 ?_
              refine lf_goto ?_
              refine lf_blk B_Mod_lawLine_94 ?_
              refine lf_istore (L := fun y101 => [.ref 389, .int y76, .int y78, .int y101]) h rfl rfl (fun _ => rfl) ?_
              intro y101 h
              refine lf_aload rfl ?_
              refine lf_getf (ci := 10) (k := 12) lf_a389 rfl (by decide) rfl ?_
              refine lf_iconst lf_cm1 ?_
              refine lf_icmp_ne h (fun h => ?_) (fun h => ?_)
              · refine lf_blk B_Mod_lawLine_107 ?_
                cases h
                exact lf_ret ⟨rfl, rfl, rfl⟩
              · refine lf_iload rfl ?_
                refine lf_if_ne h (fun h => ?_) (fun h => ?_)
                · refine lf_blk B_Mod_lawLine_108 ?_
                  refine lf_aload rfl ?_
                  refine lf_dupr ?_
                  refine lf_getf (ci := 10) (k := 15) lf_a389 rfl (by decide) rfl ?_
                  refine lf_iload rfl ?_
                  refine lf_if_ne h (fun h => ?_) (fun h => ?_)
                  · refine lf_blk B_Mod_lawLine_121 ?_
                    refine lf_iload rfl ?_
                    refine lf_iconst lf_c1 ?_
                    refine lf_icmp_ne h (fun h => ?_) (fun h => ?_)
                    · refine lf_blk B_Mod_lawLine_131 ?_
                      refine lf_iconst lf_c0 ?_
                      refine lf_end ?_
                      refine lf_blk B_Mod_lawLine_132 ?_
                      refine lf_iadd ?_
                      refine lf_putf (ci := 10) (k := 15) h lf_a389 rfl (by decide) rfl rfl rfl ?_
                      intro s102 h
                      refine lf_aload rfl ?_
                      refine lf_dupr ?_
                      refine lf_getf (ci := 10) (k := 16) lf_a389 rfl (by decide) rfl ?_
                      refine lf_iload rfl ?_
                      refine lf_iconst lf_c2 ?_
                      refine lf_icmp_ne h (fun h => ?_) (fun h => ?_)
                      · refine lf_blk B_Mod_lawLine_150 ?_
                        refine lf_iconst lf_c0 ?_
                        refine lf_end ?_
                        refine lf_blk B_Mod_lawLine_151 ?_
                        refine lf_iadd ?_
                        refine lf_putf (ci := 10) (k := 16) h lf_a389 rfl (by decide) rfl rfl rfl ?_
                        intro s103 h
                        cases h
                        exact lf_ret ⟨rfl, rfl, rfl⟩
                      · refine lf_iload rfl ?_
                        refine lf_goto ?_
                        refine lf_blk B_Mod_lawLine_151 ?_
                        refine lf_iadd ?_
                        refine lf_putf (ci := 10) (k := 16) h lf_a389 rfl (by decide) rfl rfl rfl ?_
                        intro s104 h
                        cases h
                        exact lf_ret ⟨rfl, rfl, rfl⟩
                    · refine lf_iload rfl ?_
                      refine lf_ineg ?_
                      refine lf_goto ?_
                      refine lf_blk B_Mod_lawLine_132 ?_
                      refine lf_iadd ?_
                      refine lf_putf (ci := 10) (k := 15) h lf_a389 rfl (by decide) rfl rfl rfl ?_
                      intro s105 h
                      refine lf_aload rfl ?_
                      refine lf_dupr ?_
                      refine lf_getf (ci := 10) (k := 16) lf_a389 rfl (by decide) rfl ?_
                      refine lf_iload rfl ?_
                      refine lf_iconst lf_c2 ?_
                      refine lf_icmp_ne h (fun h => ?_) (fun h => ?_)
                      · refine lf_blk B_Mod_lawLine_150 ?_
                        refine lf_iconst lf_c0 ?_
                        refine lf_end ?_
                        refine lf_blk B_Mod_lawLine_151 ?_
                        refine lf_iadd ?_
                        refine lf_putf (ci := 10) (k := 16) h lf_a389 rfl (by decide) rfl rfl rfl ?_
                        intro s106 h
                        cases h
                        exact lf_ret ⟨rfl, rfl, rfl⟩
                      · refine lf_iload rfl ?_
                        refine lf_goto ?_
                        refine lf_blk B_Mod_lawLine_151 ?_
                        refine lf_iadd ?_
                        refine lf_putf (ci := 10) (k := 16) h lf_a389 rfl (by decide) rfl rfl rfl ?_
                        intro s107 h
                        cases h
                        exact lf_ret ⟨rfl, rfl, rfl⟩
                  · refine lf_iload rfl ?_
                    refine lf_goto ?_
                    refine lf_blk B_Mod_lawLine_132 ?_
                    refine lf_iadd ?_
                    refine lf_putf (ci := 10) (k := 15) h lf_a389 rfl (by decide) rfl rfl rfl ?_
                    intro s108 h
                    refine lf_aload rfl ?_
                    refine lf_dupr ?_
                    refine lf_getf (ci := 10) (k := 16) lf_a389 rfl (by decide) rfl ?_
                    refine lf_iload rfl ?_
                    refine lf_iconst lf_c2 ?_
                    refine lf_icmp_ne h (fun h => ?_) (fun h => ?_)
                    · refine lf_blk B_Mod_lawLine_150 ?_
                      refine lf_iconst lf_c0 ?_
                      refine lf_end ?_
                      refine lf_blk B_Mod_lawLine_151 ?_
                      refine lf_iadd ?_
                      refine lf_putf (ci := 10) (k := 16) h lf_a389 rfl (by decide) rfl rfl rfl ?_
                      intro s109 h
                      cases h
                      exact lf_ret ⟨rfl, rfl, rfl⟩
                    · refine lf_iload rfl ?_
                      refine lf_goto ?_
                      refine lf_blk B_Mod_lawLine_151 ?_
                      refine lf_iadd ?_
                      refine lf_putf (ci := 10) (k := 16) h lf_a389 rfl (by decide) rfl rfl rfl ?_
                      intro s110 h
                      cases h
                      exact lf_ret ⟨rfl, rfl, rfl⟩
                · refine lf_end ?_
                  refine lf_blk B_Mod_lawLine_107 ?_
                  cases h
                  exact lf_ret ⟨rfl, rfl, rfl⟩
        · cases h
          exact lf_ret ⟨rfl, rfl, rfl⟩
      · refine lf_aload rfl ?_
        refine lf_aload rfl ?_
        refine lf_getf (ci := 10) (k := 11) lf_a389 rfl (by decide) rfl ?_
        refine lf_callVWu (as := [.int (p2.2.1 389 11)]) (rest := []) h rfl rfl lf_a389 rfl (Nat.le_trans (by decide) hd) rfl rfl (fun p111 h9 => s_Mod_wrong h9) ?_
        intro p111 h
        cases h
        exact lf_ret ⟨rfl, rfl, rfl⟩
  · refine lf_iconst lf_c0 ?_
    refine lf_goto ?_
    refine lf_blk B_Mod_lawLine_40 ?_
    refine lf_istore (L := fun y112 => [.ref 389, .int y112, mj_U, mj_U]) h rfl rfl (fun _ => rfl) ?_
    intro y112 h
    refine lf_iload rfl ?_
    refine lf_iconst lf_cm1 ?_
    refine lf_icmp_ne h (fun h => ?_) (fun h => ?_)
    · refine lf_blk B_Mod_lawLine_55 ?_
      refine lf_aload rfl ?_
      refine lf_iconst lf_c0 ?_
      refine lf_iconst lf_c99 ?_
      refine lf_callVWi (as := [.int (0 : Int32), .int (99 : Int32)]) (rest := []) h rfl rfl lf_a389 rfl (Nat.le_trans (by decide) hd) rfl rfl (fun p113 h9 => s_Mod_figures h9) ?_
      intro p113 h
      refine lf_istore (L := fun y114 => [.ref 389, .int y112, .int y114, mj_U]) h rfl rfl (fun _ => rfl) ?_
      intro y114 h
      refine lf_aload rfl ?_
      refine lf_getf (ci := 10) (k := 12) lf_a389 rfl (by decide) rfl ?_
      refine lf_iconst lf_cm1 ?_
      refine lf_icmp_eq h (fun h => ?_) (fun h => ?_)
      · refine lf_blk B_Mod_lawLine_72 ?_
        refine lf_aload rfl ?_
        refine lf_ldc ?_
        refine lf_callVWb (as := [.ref (mj_SC + 1 + 31)]) (rest := []) h rfl rfl lf_a389 rfl (Nat.le_trans (by decide) hd) rfl rfl (fun p115 h9 => s_Mod_has (by decide : 31 < 71) h9) ?_
        intro p115 h
        refine lf_ifb_eq h (fun h => ?_) (fun h => ?_)
        · refine lf_blk B_Mod_lawLine_89 ?_
          refine lf_iconst lf_c1 ?_
          refine lf_goto ?_
          refine lf_blk B_Mod_lawLine_94 ?_
          refine lf_istore (L := fun y116 => [.ref 389, .int y112, .int y114, .int y116]) h rfl rfl (fun _ => rfl) ?_
          intro y116 h
          refine lf_aload rfl ?_
          refine lf_getf (ci := 10) (k := 12) lf_a389 rfl (by decide) rfl ?_
          refine lf_iconst lf_cm1 ?_
          refine lf_icmp_ne h (fun h => ?_) (fun h => ?_)
          · refine lf_blk B_Mod_lawLine_107 ?_
            cases h
            exact lf_ret ⟨rfl, rfl, rfl⟩
          · refine lf_iload rfl ?_
            refine lf_if_ne h (fun h => ?_) (fun h => ?_)
            · refine lf_blk B_Mod_lawLine_108 ?_
              refine lf_aload rfl ?_
              refine lf_dupr ?_
              refine lf_getf (ci := 10) (k := 15) lf_a389 rfl (by decide) rfl ?_
              refine lf_iload rfl ?_
              refine lf_if_ne h (fun h => ?_) (fun h => ?_)
              · refine lf_blk B_Mod_lawLine_121 ?_
                refine lf_iload rfl ?_
                refine lf_iconst lf_c1 ?_
                refine lf_icmp_ne h (fun h => ?_) (fun h => ?_)
                · refine lf_blk B_Mod_lawLine_131 ?_
                  refine lf_iconst lf_c0 ?_
                  refine lf_end ?_
                  refine lf_blk B_Mod_lawLine_132 ?_
                  refine lf_iadd ?_
                  refine lf_putf (ci := 10) (k := 15) h lf_a389 rfl (by decide) rfl rfl rfl ?_
                  intro s117 h
                  refine lf_aload rfl ?_
                  refine lf_dupr ?_
                  refine lf_getf (ci := 10) (k := 16) lf_a389 rfl (by decide) rfl ?_
                  refine lf_iload rfl ?_
                  refine lf_iconst lf_c2 ?_
                  refine lf_icmp_ne h (fun h => ?_) (fun h => ?_)
                  · refine lf_blk B_Mod_lawLine_150 ?_
                    refine lf_iconst lf_c0 ?_
                    refine lf_end ?_
                    refine lf_blk B_Mod_lawLine_151 ?_
                    refine lf_iadd ?_
                    refine lf_putf (ci := 10) (k := 16) h lf_a389 rfl (by decide) rfl rfl rfl ?_
                    intro s118 h
                    cases h
                    exact lf_ret ⟨rfl, rfl, rfl⟩
                  · refine lf_iload rfl ?_
                    refine lf_goto ?_
                    refine lf_blk B_Mod_lawLine_151 ?_
                    refine lf_iadd ?_
                    refine lf_putf (ci := 10) (k := 16) h lf_a389 rfl (by decide) rfl rfl rfl ?_
                    intro s119 h
                    cases h
                    exact lf_ret ⟨rfl, rfl, rfl⟩
                · refine lf_iload rfl ?_
                  refine lf_ineg ?_
                  refine lf_goto ?_
                  refine lf_blk B_Mod_lawLine_132 ?_
                  refine lf_iadd ?_
                  refine lf_putf (ci := 10) (k := 15) h lf_a389 rfl (by decide) rfl rfl rfl ?_
                  intro s120 h
                  refine lf_aload rfl ?_
                  refine lf_dupr ?_
                  refine lf_getf (ci := 10) (k := 16) lf_a389 rfl (by decide) rfl ?_
                  refine lf_iload rfl ?_
                  refine lf_iconst lf_c2 ?_
                  refine lf_icmp_ne h (fun h => ?_) (fun h => ?_)
                  · refine lf_blk B_Mod_lawLine_150 ?_
                    refine lf_iconst lf_c0 ?_
                    refine lf_end ?_
                    refine lf_blk B_Mod_lawLine_151 ?_
                    refine lf_iadd ?_
                    refine lf_putf (ci := 10) (k := 16) h lf_a389 rfl (by decide) rfl rfl rfl ?_
                    intro s121 h
                    cases h
                    exact lf_ret ⟨rfl, rfl, rfl⟩
                  · refine lf_iload rfl ?_
                    refine lf_goto ?_
                    refine lf_blk B_Mod_lawLine_151 ?_
                    refine lf_iadd ?_
                    refine lf_putf (ci := 10) (k := 16) h lf_a389 rfl (by decide) rfl rfl rfl ?_
                    intro s122 h
                    cases h
                    exact lf_ret ⟨rfl, rfl, rfl⟩
              · refine lf_iload rfl ?_
                refine lf_goto ?_
                refine lf_blk B_Mod_lawLine_132 ?_
                refine lf_iadd ?_
                refine lf_putf (ci := 10) (k := 15) h lf_a389 rfl (by decide) rfl rfl rfl ?_
                intro s123 h
                refine lf_aload rfl ?_
                refine lf_dupr ?_
                refine lf_getf (ci := 10) (k := 16) lf_a389 rfl (by decide) rfl ?_
                refine lf_iload rfl ?_
                refine lf_iconst lf_c2 ?_
                refine lf_icmp_ne h (fun h => ?_) (fun h => ?_)
                · refine lf_blk B_Mod_lawLine_150 ?_
                  refine lf_iconst lf_c0 ?_
                  refine lf_end ?_
                  refine lf_blk B_Mod_lawLine_151 ?_
                  refine lf_iadd ?_
                  refine lf_putf (ci := 10) (k := 16) h lf_a389 rfl (by decide) rfl rfl rfl ?_
                  intro s124 h
                  cases h
                  exact lf_ret ⟨rfl, rfl, rfl⟩
                · refine lf_iload rfl ?_
                  refine lf_goto ?_
                  refine lf_blk B_Mod_lawLine_151 ?_
                  refine lf_iadd ?_
                  refine lf_putf (ci := 10) (k := 16) h lf_a389 rfl (by decide) rfl rfl rfl ?_
                  intro s125 h
                  cases h
                  exact lf_ret ⟨rfl, rfl, rfl⟩
            · refine lf_end ?_
              refine lf_blk B_Mod_lawLine_107 ?_
              cases h
              exact lf_ret ⟨rfl, rfl, rfl⟩
        · refine lf_aload rfl ?_
          refine lf_callVWb (as := []) (rest := []) h rfl rfl lf_a389 rfl (Nat.le_trans (by decide) hd) rfl rfl (fun p126 h9 => s_Mod_some h9) ?_
          intro p126 h
          refine lf_ifb_eq h (fun h => ?_) (fun h => ?_)
          · refine lf_blk B_Mod_lawLine_93 ?_
            refine lf_iconst lf_c0 ?_
            refine lf_end ?_
            refine lf_blk B_Mod_lawLine_94 ?_
            refine lf_istore (L := fun y127 => [.ref 389, .int y112, .int y114, .int y127]) h rfl rfl (fun _ => rfl) ?_
            intro y127 h
            refine lf_aload rfl ?_
            refine lf_getf (ci := 10) (k := 12) lf_a389 rfl (by decide) rfl ?_
            refine lf_iconst lf_cm1 ?_
            refine lf_icmp_ne h (fun h => ?_) (fun h => ?_)
            · refine lf_blk B_Mod_lawLine_107 ?_
              cases h
              exact lf_ret ⟨rfl, rfl, rfl⟩
            · refine lf_iload rfl ?_
              refine lf_if_ne h (fun h => ?_) (fun h => ?_)
              · refine lf_blk B_Mod_lawLine_108 ?_
                refine lf_aload rfl ?_
                refine lf_dupr ?_
                refine lf_getf (ci := 10) (k := 15) lf_a389 rfl (by decide) rfl ?_
                refine lf_iload rfl ?_
                refine lf_if_ne h (fun h => ?_) (fun h => ?_)
                · refine lf_blk B_Mod_lawLine_121 ?_
                  refine lf_iload rfl ?_
                  refine lf_iconst lf_c1 ?_
                  refine lf_icmp_ne h (fun h => ?_) (fun h => ?_)
                  · refine lf_blk B_Mod_lawLine_131 ?_
                    refine lf_iconst lf_c0 ?_
                    refine lf_end ?_
                    refine lf_blk B_Mod_lawLine_132 ?_
                    refine lf_iadd ?_
                    refine lf_putf (ci := 10) (k := 15) h lf_a389 rfl (by decide) rfl rfl rfl ?_
                    intro s128 h
                    refine lf_aload rfl ?_
                    refine lf_dupr ?_
                    refine lf_getf (ci := 10) (k := 16) lf_a389 rfl (by decide) rfl ?_
                    refine lf_iload rfl ?_
                    refine lf_iconst lf_c2 ?_
                    refine lf_icmp_ne h (fun h => ?_) (fun h => ?_)
                    · refine lf_blk B_Mod_lawLine_150 ?_
                      refine lf_iconst lf_c0 ?_
                      refine lf_end ?_
                      refine lf_blk B_Mod_lawLine_151 ?_
                      refine lf_iadd ?_
                      refine lf_putf (ci := 10) (k := 16) h lf_a389 rfl (by decide) rfl rfl rfl ?_
                      intro s129 h
                      cases h
                      exact lf_ret ⟨rfl, rfl, rfl⟩
                    · refine lf_iload rfl ?_
                      refine lf_goto ?_
                      refine lf_blk B_Mod_lawLine_151 ?_
                      refine lf_iadd ?_
                      refine lf_putf (ci := 10) (k := 16) h lf_a389 rfl (by decide) rfl rfl rfl ?_
                      intro s130 h
                      cases h
                      exact lf_ret ⟨rfl, rfl, rfl⟩
                  · refine lf_iload rfl ?_
                    refine lf_ineg ?_
                    refine lf_goto ?_
                    refine lf_blk B_Mod_lawLine_132 ?_
                    refine lf_iadd ?_
                    refine lf_putf (ci := 10) (k := 15) h lf_a389 rfl (by decide) rfl rfl rfl ?_
                    intro s131 h
                    refine lf_aload rfl ?_
                    refine lf_dupr ?_
                    refine lf_getf (ci := 10) (k := 16) lf_a389 rfl (by decide) rfl ?_
                    refine lf_iload rfl ?_
                    refine lf_iconst lf_c2 ?_
                    refine lf_icmp_ne h (fun h => ?_) (fun h => ?_)
                    · refine lf_blk B_Mod_lawLine_150 ?_
                      refine lf_iconst lf_c0 ?_
                      refine lf_end ?_
                      refine lf_blk B_Mod_lawLine_151 ?_
                      refine lf_iadd ?_
                      refine lf_putf (ci := 10) (k := 16) h lf_a389 rfl (by decide) rfl rfl rfl ?_
                      intro s132 h
                      cases h
                      exact lf_ret ⟨rfl, rfl, rfl⟩
                    · refine lf_iload rfl ?_
                      refine lf_goto ?_
                      refine lf_blk B_Mod_lawLine_151 ?_
                      refine lf_iadd ?_
                      refine lf_putf (ci := 10) (k := 16) h lf_a389 rfl (by decide) rfl rfl rfl ?_
                      intro s133 h
                      cases h
                      exact lf_ret ⟨rfl, rfl, rfl⟩
                · refine lf_iload rfl ?_
                  refine lf_goto ?_
                  refine lf_blk B_Mod_lawLine_132 ?_
                  refine lf_iadd ?_
                  refine lf_putf (ci := 10) (k := 15) h lf_a389 rfl (by decide) rfl rfl rfl ?_
                  intro s134 h
                  refine lf_aload rfl ?_
                  refine lf_dupr ?_
                  refine lf_getf (ci := 10) (k := 16) lf_a389 rfl (by decide) rfl ?_
                  refine lf_iload rfl ?_
                  refine lf_iconst lf_c2 ?_
                  refine lf_icmp_ne h (fun h => ?_) (fun h => ?_)
                  · refine lf_blk B_Mod_lawLine_150 ?_
                    refine lf_iconst lf_c0 ?_
                    refine lf_end ?_
                    refine lf_blk B_Mod_lawLine_151 ?_
                    refine lf_iadd ?_
                    refine lf_putf (ci := 10) (k := 16) h lf_a389 rfl (by decide) rfl rfl rfl ?_
                    intro s135 h
                    cases h
                    exact lf_ret ⟨rfl, rfl, rfl⟩
                  · refine lf_iload rfl ?_
                    refine lf_goto ?_
                    refine lf_blk B_Mod_lawLine_151 ?_
                    refine lf_iadd ?_
                    refine lf_putf (ci := 10) (k := 16) h lf_a389 rfl (by decide) rfl rfl rfl ?_
                    intro s136 h
                    cases h
                    exact lf_ret ⟨rfl, rfl, rfl⟩
              · refine lf_end ?_
                refine lf_blk B_Mod_lawLine_107 ?_
                cases h
                exact lf_ret ⟨rfl, rfl, rfl⟩
          · refine lf_end ?_
            refine lf_blk B_Mod_lawLine_89 ?_
            refine lf_iconst lf_c1 ?_
            refine lf_goto ?_
            refine lf_blk B_Mod_lawLine_94 ?_
            refine lf_istore (L := fun y137 => [.ref 389, .int y112, .int y114, .int y137]) h rfl rfl (fun _ => rfl) ?_
            intro y137 h
            refine lf_aload rfl ?_
            refine lf_getf (ci := 10) (k := 12) lf_a389 rfl (by decide) rfl ?_
            refine lf_iconst lf_cm1 ?_
            refine lf_icmp_ne h (fun h => ?_) (fun h => ?_)
            · refine lf_blk B_Mod_lawLine_107 ?_
              cases h
              exact lf_ret ⟨rfl, rfl, rfl⟩
            · refine lf_iload rfl ?_
              refine lf_if_ne h (fun h => ?_) (fun h => ?_)
              · refine lf_blk B_Mod_lawLine_108 ?_
                refine lf_aload rfl ?_
                refine lf_dupr ?_
                refine lf_getf (ci := 10) (k := 15) lf_a389 rfl (by decide) rfl ?_
                refine lf_iload rfl ?_
                refine lf_if_ne h (fun h => ?_) (fun h => ?_)
                · refine lf_blk B_Mod_lawLine_121 ?_
                  refine lf_iload rfl ?_
                  refine lf_iconst lf_c1 ?_
                  refine lf_icmp_ne h (fun h => ?_) (fun h => ?_)
                  · refine lf_blk B_Mod_lawLine_131 ?_
                    refine lf_iconst lf_c0 ?_
                    refine lf_end ?_
                    refine lf_blk B_Mod_lawLine_132 ?_
                    refine lf_iadd ?_
                    refine lf_putf (ci := 10) (k := 15) h lf_a389 rfl (by decide) rfl rfl rfl ?_
                    intro s138 h
                    refine lf_aload rfl ?_
                    refine lf_dupr ?_
                    refine lf_getf (ci := 10) (k := 16) lf_a389 rfl (by decide) rfl ?_
                    refine lf_iload rfl ?_
                    refine lf_iconst lf_c2 ?_
                    refine lf_icmp_ne h (fun h => ?_) (fun h => ?_)
                    · refine lf_blk B_Mod_lawLine_150 ?_
                      refine lf_iconst lf_c0 ?_
                      refine lf_end ?_
                      refine lf_blk B_Mod_lawLine_151 ?_
                      refine lf_iadd ?_
                      refine lf_putf (ci := 10) (k := 16) h lf_a389 rfl (by decide) rfl rfl rfl ?_
                      intro s139 h
                      cases h
                      exact lf_ret ⟨rfl, rfl, rfl⟩
                    · refine lf_iload rfl ?_
                      refine lf_goto ?_
                      refine lf_blk B_Mod_lawLine_151 ?_
                      refine lf_iadd ?_
                      refine lf_putf (ci := 10) (k := 16) h lf_a389 rfl (by decide) rfl rfl rfl ?_
                      intro s140 h
                      cases h
                      exact lf_ret ⟨rfl, rfl, rfl⟩
                  · refine lf_iload rfl ?_
                    refine lf_ineg ?_
                    refine lf_goto ?_
                    refine lf_blk B_Mod_lawLine_132 ?_
                    refine lf_iadd ?_
                    refine lf_putf (ci := 10) (k := 15) h lf_a389 rfl (by decide) rfl rfl rfl ?_
                    intro s141 h
                    refine lf_aload rfl ?_
                    refine lf_dupr ?_
                    refine lf_getf (ci := 10) (k := 16) lf_a389 rfl (by decide) rfl ?_
                    refine lf_iload rfl ?_
                    refine lf_iconst lf_c2 ?_
                    refine lf_icmp_ne h (fun h => ?_) (fun h => ?_)
                    · refine lf_blk B_Mod_lawLine_150 ?_
                      refine lf_iconst lf_c0 ?_
                      refine lf_end ?_
                      refine lf_blk B_Mod_lawLine_151 ?_
                      refine lf_iadd ?_
                      refine lf_putf (ci := 10) (k := 16) h lf_a389 rfl (by decide) rfl rfl rfl ?_
                      intro s142 h
                      cases h
                      exact lf_ret ⟨rfl, rfl, rfl⟩
                    · refine lf_iload rfl ?_
                      refine lf_goto ?_
                      refine lf_blk B_Mod_lawLine_151 ?_
                      refine lf_iadd ?_
                      refine lf_putf (ci := 10) (k := 16) h lf_a389 rfl (by decide) rfl rfl rfl ?_
                      intro s143 h
                      cases h
                      exact lf_ret ⟨rfl, rfl, rfl⟩
                · refine lf_iload rfl ?_
                  refine lf_goto ?_
                  refine lf_blk B_Mod_lawLine_132 ?_
                  refine lf_iadd ?_
                  refine lf_putf (ci := 10) (k := 15) h lf_a389 rfl (by decide) rfl rfl rfl ?_
                  intro s144 h
                  refine lf_aload rfl ?_
                  refine lf_dupr ?_
                  refine lf_getf (ci := 10) (k := 16) lf_a389 rfl (by decide) rfl ?_
                  refine lf_iload rfl ?_
                  refine lf_iconst lf_c2 ?_
                  refine lf_icmp_ne h (fun h => ?_) (fun h => ?_)
                  · refine lf_blk B_Mod_lawLine_150 ?_
                    refine lf_iconst lf_c0 ?_
                    refine lf_end ?_
                    refine lf_blk B_Mod_lawLine_151 ?_
                    refine lf_iadd ?_
                    refine lf_putf (ci := 10) (k := 16) h lf_a389 rfl (by decide) rfl rfl rfl ?_
                    intro s145 h
                    cases h
                    exact lf_ret ⟨rfl, rfl, rfl⟩
                  · refine lf_iload rfl ?_
                    refine lf_goto ?_
                    refine lf_blk B_Mod_lawLine_151 ?_
                    refine lf_iadd ?_
                    refine lf_putf (ci := 10) (k := 16) h lf_a389 rfl (by decide) rfl rfl rfl ?_
                    intro s146 h
                    cases h
                    exact lf_ret ⟨rfl, rfl, rfl⟩
              · refine lf_end ?_
                refine lf_blk B_Mod_lawLine_107 ?_
                cases h
                exact lf_ret ⟨rfl, rfl, rfl⟩
      · cases h
        exact lf_ret ⟨rfl, rfl, rfl⟩
    · refine lf_aload rfl ?_
      refine lf_aload rfl ?_
      refine lf_getf (ci := 10) (k := 11) lf_a389 rfl (by decide) rfl ?_
      refine lf_callVWu (as := [.int (p1.2.1 389 11)]) (rest := []) h rfl rfl lf_a389 rfl (Nat.le_trans (by decide) hd) rfl rfl (fun p147 h9 => s_Mod_wrong h9) ?_
      intro p147 h
      cases h
      exact lf_ret ⟨rfl, rfl, rfl⟩
theorem s_Mod_read_23 {sc : Nat × (Nat → Int32)} {d : Nat} {Q : mj_Q} {cl : Bool} {rc rs : Nat} {c1 : Int32} {p : Int32 × lf_S} (hd : 72 ≤ d) (hk : lf_wp sc d j_Mod_read Q 144 [mj_U, mj_U, mj_U, .int p.1] [] (lf_hp p.2) cl rc rs) : ∀ (n : Nat) (v2 : Int32) (v3 : Int32) (s : lf_S), f_Mod_read_23 c1 n v2 v3 s = some p → lf_wp sc d j_Mod_read Q 23 [.ref 389, .int c1, .int v2, .int v3] [] (lf_hp s) cl rc rs := by
  intro n
  induction n with
  | zero =>
    intro v2 v3 s h
    exact absurd h (fun z => by cases z)
  | succ n ih =>
    intro v2 v3 s h
    unfold f_Mod_read_23 at h
    refine lf_blk B_Mod_read_23 ?_
    refine lf_iload rfl ?_
    refine lf_if_eq h (fun h => ?_) (fun h => ?_)
    · rw [← Option.some.inj h] at hk
      exact mj_w_weak (ls := [mj_U, mj_U, mj_U, .int v3]) (lf_rr (lf_ri (lf_ri (lf_rl (lf_r0))))) hk
    · refine lf_aload rfl ?_
      refine lf_getf (ci := 10) (k := 12) lf_a389 rfl (by decide) rfl ?_
      refine lf_iconst lf_cm1 ?_
      refine lf_icmp_ne h (fun h => ?_) (fun h => ?_)
      · rw [← Option.some.inj h] at hk
        exact mj_w_weak (ls := [mj_U, mj_U, mj_U, .int v3]) (lf_rr (lf_ri (lf_ri (lf_rl (lf_r0))))) hk
      · refine lf_aload rfl ?_
        refine lf_callVWu (as := []) (rest := []) h rfl rfl lf_a389 rfl (Nat.le_trans (by decide) hd) rfl rfl (fun p4 h9 => s_Mod_skip h9) ?_
        intro p4 h
        refine lf_iload rfl ?_
        refine lf_iload rfl ?_
        refine lf_if_eq h (fun h => ?_) (fun h => ?_)
        · refine lf_blk B_Mod_read_49 ?_
          refine lf_iconst lf_c14 ?_
          refine lf_end ?_
          refine lf_blk B_Mod_read_51 ?_
          refine lf_icmp_ne h (fun h => ?_) (fun h => ?_)
          · refine lf_blk B_Mod_read_65 ?_
            refine lf_iload rfl ?_
            refine lf_if_eq h (fun h => ?_) (fun h => ?_)
            · refine lf_blk B_Mod_read_76 ?_
              refine lf_aload rfl ?_
              refine lf_callVWu (as := []) (rest := []) h rfl rfl lf_a389 rfl (Nat.le_trans (by decide) hd) rfl rfl (fun p5 h9 => s_Mod_holtLine h9) ?_
              intro p5 h
              refine lf_end ?_
              refine lf_blk B_Mod_read_80 ?_
              refine lf_iinc (L := fun y6 => [.ref 389, .int c1, .int v2, .int y6]) h lf_c1 rfl rfl (fun _ => rfl) ?_
              intro y6 h
              refine lf_aload rfl ?_
              refine lf_callVWu (as := []) (rest := []) h rfl rfl lf_a389 rfl (Nat.le_trans (by decide) hd) rfl rfl (fun p7 h9 => s_Mod_skip h9) ?_
              intro p7 h
              refine lf_aload rfl ?_
              refine lf_getf (ci := 10) (k := 12) lf_a389 rfl (by decide) rfl ?_
              refine lf_iconst lf_cm1 ?_
              refine lf_icmp_ne h (fun h => ?_) (fun h => ?_)
              · refine lf_blk B_Mod_read_106 ?_
                refine lf_iconst lf_c0 ?_
                refine lf_istore (L := fun y8 => [.ref 389, .int c1, .int y8, .int y6]) h rfl rfl (fun _ => rfl) ?_
                intro y8 h
                refine lf_goto ?_
                exact mj_w_weak (ls := [.ref 389, .int c1, .int y8, .int y6]) (lf_rl (lf_rl (lf_rl (lf_rl (lf_r0))))) (ih y8 y6 p7 h)
              · refine lf_aload rfl ?_
                refine lf_getf (ci := 10) (k := 11) lf_a389 rfl (by decide) rfl ?_
                refine lf_aload rfl ?_
                refine lf_getf (ci := 10) (k := 10) lf_a389 rfl (by decide) rfl ?_
                refine lf_icmp_ne h (fun h => ?_) (fun h => ?_)
                · refine lf_blk B_Mod_read_111 ?_
                  refine lf_aload rfl ?_
                  refine lf_iconst lf_c59 ?_
                  refine lf_callVWb (as := [.int (59 : Int32)]) (rest := []) h rfl rfl lf_a389 rfl (Nat.le_trans (by decide) hd) rfl rfl (fun p9 h9 => s_Mod_isSign h9) ?_
                  intro p9 h
                  refine lf_ifb_eq h (fun h => ?_) (fun h => ?_)
                  · refine lf_blk B_Mod_read_133 ?_
                    refine lf_aload rfl ?_
                    refine lf_aload rfl ?_
                    refine lf_getf (ci := 10) (k := 11) lf_a389 rfl (by decide) rfl ?_
                    refine lf_callVWu (as := [.int (p9.2.1 389 11)]) (rest := []) h rfl rfl lf_a389 rfl (Nat.le_trans (by decide) hd) rfl rfl (fun p10 h9 => s_Mod_wrong h9) ?_
                    intro p10 h
                    refine lf_goto ?_
                    exact mj_w_weak (ls := [.ref 389, .int c1, .int v2, .int y6]) (lf_rl (lf_rl (lf_rl (lf_rl (lf_r0))))) (ih v2 y6 p10 h)
                  · refine lf_aload rfl ?_
                    refine lf_dupr ?_
                    refine lf_getf (ci := 10) (k := 11) lf_a389 rfl (by decide) rfl ?_
                    refine lf_iconst lf_c1 ?_
                    refine lf_iadd ?_
                    refine lf_putf (ci := 10) (k := 11) h lf_a389 rfl (by decide) rfl rfl rfl ?_
                    intro s11 h
                    refine lf_goto ?_
                    exact mj_w_weak (ls := [.ref 389, .int c1, .int v2, .int y6]) (lf_rl (lf_rl (lf_rl (lf_rl (lf_r0))))) (ih v2 y6 s11 h)
                · refine lf_end ?_
                  refine lf_blk B_Mod_read_106 ?_
                  refine lf_iconst lf_c0 ?_
                  refine lf_istore (L := fun y12 => [.ref 389, .int c1, .int y12, .int y6]) h rfl rfl (fun _ => rfl) ?_
                  intro y12 h
                  refine lf_goto ?_
                  exact mj_w_weak (ls := [.ref 389, .int c1, .int y12, .int y6]) (lf_rl (lf_rl (lf_rl (lf_rl (lf_r0))))) (ih y12 y6 p7 h)
            · refine lf_aload rfl ?_
              refine lf_callVWu (as := []) (rest := []) h rfl rfl lf_a389 rfl (Nat.le_trans (by decide) hd) rfl rfl (fun p13 h9 => s_Mod_lawLine h9) ?_
              intro p13 h
              refine lf_goto ?_
              refine lf_blk B_Mod_read_80 ?_
              refine lf_iinc (L := fun y14 => [.ref 389, .int c1, .int v2, .int y14]) h lf_c1 rfl rfl (fun _ => rfl) ?_
              intro y14 h
              refine lf_aload rfl ?_
              refine lf_callVWu (as := []) (rest := []) h rfl rfl lf_a389 rfl (Nat.le_trans (by decide) hd) rfl rfl (fun p15 h9 => s_Mod_skip h9) ?_
              intro p15 h
              refine lf_aload rfl ?_
              refine lf_getf (ci := 10) (k := 12) lf_a389 rfl (by decide) rfl ?_
              refine lf_iconst lf_cm1 ?_
              refine lf_icmp_ne h (fun h => ?_) (fun h => ?_)
              · refine lf_blk B_Mod_read_106 ?_
                refine lf_iconst lf_c0 ?_
                refine lf_istore (L := fun y16 => [.ref 389, .int c1, .int y16, .int y14]) h rfl rfl (fun _ => rfl) ?_
                intro y16 h
                refine lf_goto ?_
                exact mj_w_weak (ls := [.ref 389, .int c1, .int y16, .int y14]) (lf_rl (lf_rl (lf_rl (lf_rl (lf_r0))))) (ih y16 y14 p15 h)
              · refine lf_aload rfl ?_
                refine lf_getf (ci := 10) (k := 11) lf_a389 rfl (by decide) rfl ?_
                refine lf_aload rfl ?_
                refine lf_getf (ci := 10) (k := 10) lf_a389 rfl (by decide) rfl ?_
                refine lf_icmp_ne h (fun h => ?_) (fun h => ?_)
                · refine lf_blk B_Mod_read_111 ?_
                  refine lf_aload rfl ?_
                  refine lf_iconst lf_c59 ?_
                  refine lf_callVWb (as := [.int (59 : Int32)]) (rest := []) h rfl rfl lf_a389 rfl (Nat.le_trans (by decide) hd) rfl rfl (fun p17 h9 => s_Mod_isSign h9) ?_
                  intro p17 h
                  refine lf_ifb_eq h (fun h => ?_) (fun h => ?_)
                  · refine lf_blk B_Mod_read_133 ?_
                    refine lf_aload rfl ?_
                    refine lf_aload rfl ?_
                    refine lf_getf (ci := 10) (k := 11) lf_a389 rfl (by decide) rfl ?_
                    refine lf_callVWu (as := [.int (p17.2.1 389 11)]) (rest := []) h rfl rfl lf_a389 rfl (Nat.le_trans (by decide) hd) rfl rfl (fun p18 h9 => s_Mod_wrong h9) ?_
                    intro p18 h
                    refine lf_goto ?_
                    exact mj_w_weak (ls := [.ref 389, .int c1, .int v2, .int y14]) (lf_rl (lf_rl (lf_rl (lf_rl (lf_r0))))) (ih v2 y14 p18 h)
                  · refine lf_aload rfl ?_
                    refine lf_dupr ?_
                    refine lf_getf (ci := 10) (k := 11) lf_a389 rfl (by decide) rfl ?_
                    refine lf_iconst lf_c1 ?_
                    refine lf_iadd ?_
                    refine lf_putf (ci := 10) (k := 11) h lf_a389 rfl (by decide) rfl rfl rfl ?_
                    intro s19 h
                    refine lf_goto ?_
                    exact mj_w_weak (ls := [.ref 389, .int c1, .int v2, .int y14]) (lf_rl (lf_rl (lf_rl (lf_rl (lf_r0))))) (ih v2 y14 s19 h)
                · refine lf_end ?_
                  refine lf_blk B_Mod_read_106 ?_
                  refine lf_iconst lf_c0 ?_
                  refine lf_istore (L := fun y20 => [.ref 389, .int c1, .int y20, .int y14]) h rfl rfl (fun _ => rfl) ?_
                  intro y20 h
                  refine lf_goto ?_
                  exact mj_w_weak (ls := [.ref 389, .int c1, .int y20, .int y14]) (lf_rl (lf_rl (lf_rl (lf_rl (lf_r0))))) (ih y20 y14 p15 h)
          · refine lf_aload rfl ?_
            refine lf_aload rfl ?_
            refine lf_getf (ci := 10) (k := 11) lf_a389 rfl (by decide) rfl ?_
            refine lf_callVWu (as := [.int (p4.1 389 11)]) (rest := []) h rfl rfl lf_a389 rfl (Nat.le_trans (by decide) hd) rfl rfl (fun p21 h9 => s_Mod_wrong h9) ?_
            intro p21 h
            refine lf_goto ?_
            refine lf_blk B_Mod_read_80 ?_
            refine lf_iinc (L := fun y22 => [.ref 389, .int c1, .int v2, .int y22]) h lf_c1 rfl rfl (fun _ => rfl) ?_
            intro y22 h
            refine lf_aload rfl ?_
            refine lf_callVWu (as := []) (rest := []) h rfl rfl lf_a389 rfl (Nat.le_trans (by decide) hd) rfl rfl (fun p23 h9 => s_Mod_skip h9) ?_
            intro p23 h
            refine lf_aload rfl ?_
            refine lf_getf (ci := 10) (k := 12) lf_a389 rfl (by decide) rfl ?_
            refine lf_iconst lf_cm1 ?_
            refine lf_icmp_ne h (fun h => ?_) (fun h => ?_)
            · refine lf_blk B_Mod_read_106 ?_
              refine lf_iconst lf_c0 ?_
              refine lf_istore (L := fun y24 => [.ref 389, .int c1, .int y24, .int y22]) h rfl rfl (fun _ => rfl) ?_
              intro y24 h
              refine lf_goto ?_
              exact mj_w_weak (ls := [.ref 389, .int c1, .int y24, .int y22]) (lf_rl (lf_rl (lf_rl (lf_rl (lf_r0))))) (ih y24 y22 p23 h)
            · refine lf_aload rfl ?_
              refine lf_getf (ci := 10) (k := 11) lf_a389 rfl (by decide) rfl ?_
              refine lf_aload rfl ?_
              refine lf_getf (ci := 10) (k := 10) lf_a389 rfl (by decide) rfl ?_
              refine lf_icmp_ne h (fun h => ?_) (fun h => ?_)
              · refine lf_blk B_Mod_read_111 ?_
                refine lf_aload rfl ?_
                refine lf_iconst lf_c59 ?_
                refine lf_callVWb (as := [.int (59 : Int32)]) (rest := []) h rfl rfl lf_a389 rfl (Nat.le_trans (by decide) hd) rfl rfl (fun p25 h9 => s_Mod_isSign h9) ?_
                intro p25 h
                refine lf_ifb_eq h (fun h => ?_) (fun h => ?_)
                · refine lf_blk B_Mod_read_133 ?_
                  refine lf_aload rfl ?_
                  refine lf_aload rfl ?_
                  refine lf_getf (ci := 10) (k := 11) lf_a389 rfl (by decide) rfl ?_
                  refine lf_callVWu (as := [.int (p25.2.1 389 11)]) (rest := []) h rfl rfl lf_a389 rfl (Nat.le_trans (by decide) hd) rfl rfl (fun p26 h9 => s_Mod_wrong h9) ?_
                  intro p26 h
                  refine lf_goto ?_
                  exact mj_w_weak (ls := [.ref 389, .int c1, .int v2, .int y22]) (lf_rl (lf_rl (lf_rl (lf_rl (lf_r0))))) (ih v2 y22 p26 h)
                · refine lf_aload rfl ?_
                  refine lf_dupr ?_
                  refine lf_getf (ci := 10) (k := 11) lf_a389 rfl (by decide) rfl ?_
                  refine lf_iconst lf_c1 ?_
                  refine lf_iadd ?_
                  refine lf_putf (ci := 10) (k := 11) h lf_a389 rfl (by decide) rfl rfl rfl ?_
                  intro s27 h
                  refine lf_goto ?_
                  exact mj_w_weak (ls := [.ref 389, .int c1, .int v2, .int y22]) (lf_rl (lf_rl (lf_rl (lf_rl (lf_r0))))) (ih v2 y22 s27 h)
              · refine lf_end ?_
                refine lf_blk B_Mod_read_106 ?_
                refine lf_iconst lf_c0 ?_
                refine lf_istore (L := fun y28 => [.ref 389, .int c1, .int y28, .int y22]) h rfl rfl (fun _ => rfl) ?_
                intro y28 h
                refine lf_goto ?_
                exact mj_w_weak (ls := [.ref 389, .int c1, .int y28, .int y22]) (lf_rl (lf_rl (lf_rl (lf_rl (lf_r0))))) (ih y28 y22 p23 h)
        · refine lf_iconst lf_c12 ?_
          refine lf_goto ?_
          refine lf_blk B_Mod_read_51 ?_
          refine lf_icmp_ne h (fun h => ?_) (fun h => ?_)
          · refine lf_blk B_Mod_read_65 ?_
            refine lf_iload rfl ?_
            refine lf_if_eq h (fun h => ?_) (fun h => ?_)
            · refine lf_blk B_Mod_read_76 ?_
              refine lf_aload rfl ?_
              refine lf_callVWu (as := []) (rest := []) h rfl rfl lf_a389 rfl (Nat.le_trans (by decide) hd) rfl rfl (fun p29 h9 => s_Mod_holtLine h9) ?_
              intro p29 h
              refine lf_end ?_
              refine lf_blk B_Mod_read_80 ?_
              refine lf_iinc (L := fun y30 => [.ref 389, .int c1, .int v2, .int y30]) h lf_c1 rfl rfl (fun _ => rfl) ?_
              intro y30 h
              refine lf_aload rfl ?_
              refine lf_callVWu (as := []) (rest := []) h rfl rfl lf_a389 rfl (Nat.le_trans (by decide) hd) rfl rfl (fun p31 h9 => s_Mod_skip h9) ?_
              intro p31 h
              refine lf_aload rfl ?_
              refine lf_getf (ci := 10) (k := 12) lf_a389 rfl (by decide) rfl ?_
              refine lf_iconst lf_cm1 ?_
              refine lf_icmp_ne h (fun h => ?_) (fun h => ?_)
              · refine lf_blk B_Mod_read_106 ?_
                refine lf_iconst lf_c0 ?_
                refine lf_istore (L := fun y32 => [.ref 389, .int c1, .int y32, .int y30]) h rfl rfl (fun _ => rfl) ?_
                intro y32 h
                refine lf_goto ?_
                exact mj_w_weak (ls := [.ref 389, .int c1, .int y32, .int y30]) (lf_rl (lf_rl (lf_rl (lf_rl (lf_r0))))) (ih y32 y30 p31 h)
              · refine lf_aload rfl ?_
                refine lf_getf (ci := 10) (k := 11) lf_a389 rfl (by decide) rfl ?_
                refine lf_aload rfl ?_
                refine lf_getf (ci := 10) (k := 10) lf_a389 rfl (by decide) rfl ?_
                refine lf_icmp_ne h (fun h => ?_) (fun h => ?_)
                · refine lf_blk B_Mod_read_111 ?_
                  refine lf_aload rfl ?_
                  refine lf_iconst lf_c59 ?_
                  refine lf_callVWb (as := [.int (59 : Int32)]) (rest := []) h rfl rfl lf_a389 rfl (Nat.le_trans (by decide) hd) rfl rfl (fun p33 h9 => s_Mod_isSign h9) ?_
                  intro p33 h
                  refine lf_ifb_eq h (fun h => ?_) (fun h => ?_)
                  · refine lf_blk B_Mod_read_133 ?_
                    refine lf_aload rfl ?_
                    refine lf_aload rfl ?_
                    refine lf_getf (ci := 10) (k := 11) lf_a389 rfl (by decide) rfl ?_
                    refine lf_callVWu (as := [.int (p33.2.1 389 11)]) (rest := []) h rfl rfl lf_a389 rfl (Nat.le_trans (by decide) hd) rfl rfl (fun p34 h9 => s_Mod_wrong h9) ?_
                    intro p34 h
                    refine lf_goto ?_
                    exact mj_w_weak (ls := [.ref 389, .int c1, .int v2, .int y30]) (lf_rl (lf_rl (lf_rl (lf_rl (lf_r0))))) (ih v2 y30 p34 h)
                  · refine lf_aload rfl ?_
                    refine lf_dupr ?_
                    refine lf_getf (ci := 10) (k := 11) lf_a389 rfl (by decide) rfl ?_
                    refine lf_iconst lf_c1 ?_
                    refine lf_iadd ?_
                    refine lf_putf (ci := 10) (k := 11) h lf_a389 rfl (by decide) rfl rfl rfl ?_
                    intro s35 h
                    refine lf_goto ?_
                    exact mj_w_weak (ls := [.ref 389, .int c1, .int v2, .int y30]) (lf_rl (lf_rl (lf_rl (lf_rl (lf_r0))))) (ih v2 y30 s35 h)
                · refine lf_end ?_
                  refine lf_blk B_Mod_read_106 ?_
                  refine lf_iconst lf_c0 ?_
                  refine lf_istore (L := fun y36 => [.ref 389, .int c1, .int y36, .int y30]) h rfl rfl (fun _ => rfl) ?_
                  intro y36 h
                  refine lf_goto ?_
                  exact mj_w_weak (ls := [.ref 389, .int c1, .int y36, .int y30]) (lf_rl (lf_rl (lf_rl (lf_rl (lf_r0))))) (ih y36 y30 p31 h)
            · refine lf_aload rfl ?_
              refine lf_callVWu (as := []) (rest := []) h rfl rfl lf_a389 rfl (Nat.le_trans (by decide) hd) rfl rfl (fun p37 h9 => s_Mod_lawLine h9) ?_
              intro p37 h
              refine lf_goto ?_
              refine lf_blk B_Mod_read_80 ?_
              refine lf_iinc (L := fun y38 => [.ref 389, .int c1, .int v2, .int y38]) h lf_c1 rfl rfl (fun _ => rfl) ?_
              intro y38 h
              refine lf_aload rfl ?_
              refine lf_callVWu (as := []) (rest := []) h rfl rfl lf_a389 rfl (Nat.le_trans (by decide) hd) rfl rfl (fun p39 h9 => s_Mod_skip h9) ?_
              intro p39 h
              refine lf_aload rfl ?_
              refine lf_getf (ci := 10) (k := 12) lf_a389 rfl (by decide) rfl ?_
              refine lf_iconst lf_cm1 ?_
              refine lf_icmp_ne h (fun h => ?_) (fun h => ?_)
              · refine lf_blk B_Mod_read_106 ?_
                refine lf_iconst lf_c0 ?_
                refine lf_istore (L := fun y40 => [.ref 389, .int c1, .int y40, .int y38]) h rfl rfl (fun _ => rfl) ?_
                intro y40 h
                refine lf_goto ?_
                exact mj_w_weak (ls := [.ref 389, .int c1, .int y40, .int y38]) (lf_rl (lf_rl (lf_rl (lf_rl (lf_r0))))) (ih y40 y38 p39 h)
              · refine lf_aload rfl ?_
                refine lf_getf (ci := 10) (k := 11) lf_a389 rfl (by decide) rfl ?_
                refine lf_aload rfl ?_
                refine lf_getf (ci := 10) (k := 10) lf_a389 rfl (by decide) rfl ?_
                refine lf_icmp_ne h (fun h => ?_) (fun h => ?_)
                · refine lf_blk B_Mod_read_111 ?_
                  refine lf_aload rfl ?_
                  refine lf_iconst lf_c59 ?_
                  refine lf_callVWb (as := [.int (59 : Int32)]) (rest := []) h rfl rfl lf_a389 rfl (Nat.le_trans (by decide) hd) rfl rfl (fun p41 h9 => s_Mod_isSign h9) ?_
                  intro p41 h
                  refine lf_ifb_eq h (fun h => ?_) (fun h => ?_)
                  · refine lf_blk B_Mod_read_133 ?_
                    refine lf_aload rfl ?_
                    refine lf_aload rfl ?_
                    refine lf_getf (ci := 10) (k := 11) lf_a389 rfl (by decide) rfl ?_
                    refine lf_callVWu (as := [.int (p41.2.1 389 11)]) (rest := []) h rfl rfl lf_a389 rfl (Nat.le_trans (by decide) hd) rfl rfl (fun p42 h9 => s_Mod_wrong h9) ?_
                    intro p42 h
                    refine lf_goto ?_
                    exact mj_w_weak (ls := [.ref 389, .int c1, .int v2, .int y38]) (lf_rl (lf_rl (lf_rl (lf_rl (lf_r0))))) (ih v2 y38 p42 h)
                  · refine lf_aload rfl ?_
                    refine lf_dupr ?_
                    refine lf_getf (ci := 10) (k := 11) lf_a389 rfl (by decide) rfl ?_
                    refine lf_iconst lf_c1 ?_
                    refine lf_iadd ?_
                    refine lf_putf (ci := 10) (k := 11) h lf_a389 rfl (by decide) rfl rfl rfl ?_
                    intro s43 h
                    refine lf_goto ?_
                    exact mj_w_weak (ls := [.ref 389, .int c1, .int v2, .int y38]) (lf_rl (lf_rl (lf_rl (lf_rl (lf_r0))))) (ih v2 y38 s43 h)
                · refine lf_end ?_
                  refine lf_blk B_Mod_read_106 ?_
                  refine lf_iconst lf_c0 ?_
                  refine lf_istore (L := fun y44 => [.ref 389, .int c1, .int y44, .int y38]) h rfl rfl (fun _ => rfl) ?_
                  intro y44 h
                  refine lf_goto ?_
                  exact mj_w_weak (ls := [.ref 389, .int c1, .int y44, .int y38]) (lf_rl (lf_rl (lf_rl (lf_rl (lf_r0))))) (ih y44 y38 p39 h)
          · refine lf_aload rfl ?_
            refine lf_aload rfl ?_
            refine lf_getf (ci := 10) (k := 11) lf_a389 rfl (by decide) rfl ?_
            refine lf_callVWu (as := [.int (p4.1 389 11)]) (rest := []) h rfl rfl lf_a389 rfl (Nat.le_trans (by decide) hd) rfl rfl (fun p45 h9 => s_Mod_wrong h9) ?_
            intro p45 h
            refine lf_goto ?_
            refine lf_blk B_Mod_read_80 ?_
            refine lf_iinc (L := fun y46 => [.ref 389, .int c1, .int v2, .int y46]) h lf_c1 rfl rfl (fun _ => rfl) ?_
            intro y46 h
            refine lf_aload rfl ?_
            refine lf_callVWu (as := []) (rest := []) h rfl rfl lf_a389 rfl (Nat.le_trans (by decide) hd) rfl rfl (fun p47 h9 => s_Mod_skip h9) ?_
            intro p47 h
            refine lf_aload rfl ?_
            refine lf_getf (ci := 10) (k := 12) lf_a389 rfl (by decide) rfl ?_
            refine lf_iconst lf_cm1 ?_
            refine lf_icmp_ne h (fun h => ?_) (fun h => ?_)
            · refine lf_blk B_Mod_read_106 ?_
              refine lf_iconst lf_c0 ?_
              refine lf_istore (L := fun y48 => [.ref 389, .int c1, .int y48, .int y46]) h rfl rfl (fun _ => rfl) ?_
              intro y48 h
              refine lf_goto ?_
              exact mj_w_weak (ls := [.ref 389, .int c1, .int y48, .int y46]) (lf_rl (lf_rl (lf_rl (lf_rl (lf_r0))))) (ih y48 y46 p47 h)
            · refine lf_aload rfl ?_
              refine lf_getf (ci := 10) (k := 11) lf_a389 rfl (by decide) rfl ?_
              refine lf_aload rfl ?_
              refine lf_getf (ci := 10) (k := 10) lf_a389 rfl (by decide) rfl ?_
              refine lf_icmp_ne h (fun h => ?_) (fun h => ?_)
              · refine lf_blk B_Mod_read_111 ?_
                refine lf_aload rfl ?_
                refine lf_iconst lf_c59 ?_
                refine lf_callVWb (as := [.int (59 : Int32)]) (rest := []) h rfl rfl lf_a389 rfl (Nat.le_trans (by decide) hd) rfl rfl (fun p49 h9 => s_Mod_isSign h9) ?_
                intro p49 h
                refine lf_ifb_eq h (fun h => ?_) (fun h => ?_)
                · refine lf_blk B_Mod_read_133 ?_
                  refine lf_aload rfl ?_
                  refine lf_aload rfl ?_
                  refine lf_getf (ci := 10) (k := 11) lf_a389 rfl (by decide) rfl ?_
                  refine lf_callVWu (as := [.int (p49.2.1 389 11)]) (rest := []) h rfl rfl lf_a389 rfl (Nat.le_trans (by decide) hd) rfl rfl (fun p50 h9 => s_Mod_wrong h9) ?_
                  intro p50 h
                  refine lf_goto ?_
                  exact mj_w_weak (ls := [.ref 389, .int c1, .int v2, .int y46]) (lf_rl (lf_rl (lf_rl (lf_rl (lf_r0))))) (ih v2 y46 p50 h)
                · refine lf_aload rfl ?_
                  refine lf_dupr ?_
                  refine lf_getf (ci := 10) (k := 11) lf_a389 rfl (by decide) rfl ?_
                  refine lf_iconst lf_c1 ?_
                  refine lf_iadd ?_
                  refine lf_putf (ci := 10) (k := 11) h lf_a389 rfl (by decide) rfl rfl rfl ?_
                  intro s51 h
                  refine lf_goto ?_
                  exact mj_w_weak (ls := [.ref 389, .int c1, .int v2, .int y46]) (lf_rl (lf_rl (lf_rl (lf_rl (lf_r0))))) (ih v2 y46 s51 h)
              · refine lf_end ?_
                refine lf_blk B_Mod_read_106 ?_
                refine lf_iconst lf_c0 ?_
                refine lf_istore (L := fun y52 => [.ref 389, .int c1, .int y52, .int y46]) h rfl rfl (fun _ => rfl) ?_
                intro y52 h
                refine lf_goto ?_
                exact mj_w_weak (ls := [.ref 389, .int c1, .int y52, .int y46]) (lf_rl (lf_rl (lf_rl (lf_rl (lf_r0))))) (ih y52 y46 p47 h)
theorem s_Mod_read {sc : Nat × (Nat → Int32)} {x1 : Int32} {s : lf_S} {p : Int32 × lf_S} (h : f_Mod_read x1 s = some p) : lf_ok sc 73 j_Mod_read [.ref 389, .int x1] s (some (.int p.1)) p.2 := by
  refine lf_in (D := 72) (ls := [.ref 389, .int x1, mj_U, mj_U]) rfl (lf_zi (by decide +kernel)) rfl ?_
  intro d hd cl rc rs
  unfold f_Mod_read at h
  refine lf_blk B_Mod_read_0 ?_
  refine lf_aload rfl ?_
  refine lf_callVWu (as := []) (rest := []) h rfl rfl lf_a389 rfl (Nat.le_trans (by decide) hd) rfl rfl (fun p1 h9 => s_Mod_skip h9) ?_
  intro p1 h
  refine lf_aload rfl ?_
  refine lf_getf (ci := 10) (k := 11) lf_a389 rfl (by decide) rfl ?_
  refine lf_aload rfl ?_
  refine lf_getf (ci := 10) (k := 10) lf_a389 rfl (by decide) rfl ?_
  refine lf_icmp_ge h (fun h => ?_) (fun h => ?_)
  · refine lf_blk B_Mod_read_19 ?_
    refine lf_iconst lf_c0 ?_
    refine lf_end ?_
    refine lf_blk B_Mod_read_20 ?_
    refine lf_istore (L := fun y2 => [.ref 389, .int x1, .int y2, mj_U]) h rfl rfl (fun _ => rfl) ?_
    intro y2 h
    refine lf_iconst lf_c0 ?_
    refine lf_istore (L := fun y3 => [.ref 389, .int x1, .int y2, .int y3]) h rfl rfl (fun _ => rfl) ?_
    intro y3 h
    refine lf_end ?_
    refine lf_loop h (fun p53 hp53 h => ?_)
    refine mj_w_weak (ls := [.ref 389, .int x1, .int y2, .int y3]) (lf_rl (lf_rl (lf_rl (lf_rl (lf_r0))))) ?_
    refine s_Mod_read_23 (Nat.le_trans (by decide) hd) ?_ 5000 y2 y3 p1 hp53
    refine lf_blk B_Mod_read_144 ?_
    refine lf_iload rfl ?_
    cases h
    exact lf_iret ⟨rfl, rfl, rfl⟩
  · refine lf_iconst lf_c1 ?_
    refine lf_goto ?_
    refine lf_blk B_Mod_read_20 ?_
    refine lf_istore (L := fun y54 => [.ref 389, .int x1, .int y54, mj_U]) h rfl rfl (fun _ => rfl) ?_
    intro y54 h
    refine lf_iconst lf_c0 ?_
    refine lf_istore (L := fun y55 => [.ref 389, .int x1, .int y54, .int y55]) h rfl rfl (fun _ => rfl) ?_
    intro y55 h
    refine lf_end ?_
    refine lf_loop h (fun p56 hp56 h => ?_)
    refine mj_w_weak (ls := [.ref 389, .int x1, .int y54, .int y55]) (lf_rl (lf_rl (lf_rl (lf_rl (lf_r0))))) ?_
    refine s_Mod_read_23 (Nat.le_trans (by decide) hd) ?_ 5000 y54 y55 p1 hp56
    refine lf_blk B_Mod_read_144 ?_
    refine lf_iload rfl ?_
    cases h
    exact lf_iret ⟨rfl, rfl, rfl⟩
theorem s_Mod_holt {sc : Nat × (Nat → Int32)} {s : lf_S} {p : Int32 × lf_S} (h : f_Mod_holt s = some p) : lf_ok sc 74 j_Mod_holt [.ref 389] s (some (.int p.1)) p.2 := by
  refine lf_in (D := 73) (ls := [.ref 389, mj_U]) rfl (lf_zi (by decide +kernel)) rfl ?_
  intro d hd cl rc rs
  unfold f_Mod_holt at h
  refine lf_blk B_Mod_holt_0 ?_
  refine lf_aload rfl ?_
  refine lf_callVWu (as := []) (rest := []) h rfl rfl lf_a389 rfl (Nat.le_trans (by decide) hd) rfl rfl (fun p1 h9 => s_Mod_putsAside h9) ?_
  intro p1 h
  refine lf_aload rfl ?_
  refine lf_callVWu (as := []) (rest := []) h rfl rfl lf_a389 rfl (Nat.le_trans (by decide) hd) rfl rfl (fun p2 h9 => s_Mod_begins h9) ?_
  intro p2 h
  refine lf_aload rfl ?_
  refine lf_iconst lf_c0 ?_
  refine lf_callVWi (as := [.int (0 : Int32)]) (rest := []) h rfl rfl lf_a389 rfl (Nat.le_trans (by decide) hd) rfl rfl (fun p3 h9 => s_Mod_read h9) ?_
  intro p3 h
  refine lf_istore (L := fun y4 => [.ref 389, .int y4]) h rfl rfl (fun _ => rfl) ?_
  intro y4 h
  refine lf_aload rfl ?_
  refine lf_aload rfl ?_
  refine lf_getf (ci := 10) (k := 12) lf_a389 rfl (by decide) rfl ?_
  refine lf_iconst lf_cm1 ?_
  refine lf_icmp_eq h (fun h => ?_) (fun h => ?_)
  · refine lf_blk B_Mod_holt_27 ?_
    refine lf_aload rfl ?_
    refine lf_getr (ci := 10) (k := 1) lf_a389 rfl (by decide) rfl ?_
    refine lf_iconst lf_c0 ?_
    refine lf_iald h lf_a390 ?_
    intro k5 h
    refine lf_iconst lf_c12 ?_
    refine lf_icmp_ne h (fun h => ?_) (fun h => ?_)
    · refine lf_blk B_Mod_holt_42 ?_
      refine lf_iconst lf_c0 ?_
      refine lf_end ?_
      refine lf_blk B_Mod_holt_43 ?_
      refine lf_putf (ci := 10) (k := 0) h lf_a389 rfl (by decide) rfl rfl rfl ?_
      intro s6 h
      refine lf_aload rfl ?_
      refine lf_getf (ci := 10) (k := 0) lf_a389 rfl (by decide) rfl ?_
      refine lf_if_le h (fun h => ?_) (fun h => ?_)
      · refine lf_blk B_Mod_holt_59 ?_
        refine lf_aload rfl ?_
        refine lf_getr (ci := 10) (k := 1) lf_a389 rfl (by decide) rfl ?_
        refine lf_iconst lf_c0 ?_
        refine lf_dup2 ?_
        refine lf_iald h lf_a390 ?_
        intro k7 h
        refine lf_iconst lf_c1 ?_
        refine lf_iadd ?_
        refine lf_iast h lf_a390 ?_
        intro s9 h
        refine lf_aload rfl ?_
        refine lf_iconst lf_c0 ?_
        refine lf_putf (ci := 10) (k := 6) h lf_a389 rfl (by decide) rfl rfl rfl ?_
        intro s10 h
        refine lf_aload rfl ?_
        refine lf_getr (ci := 10) (k := 1) lf_a389 rfl (by decide) rfl ?_
        refine lf_iconst lf_c0 ?_
        refine lf_iald h lf_a390 ?_
        intro k11 h
        cases h
        exact lf_iret ⟨rfl, rfl, rfl⟩
      · refine lf_aload rfl ?_
        refine lf_callVWu (as := []) (rest := []) h rfl rfl lf_a389 rfl (Nat.le_trans (by decide) hd) rfl rfl (fun p12 h9 => s_Mod_comesBack h9) ?_
        intro p12 h
        refine lf_iconst lf_c0 ?_
        cases h
        exact lf_iret ⟨rfl, rfl, rfl⟩
    · refine lf_iconst lf_c2 ?_
      refine lf_goto ?_
      refine lf_blk B_Mod_holt_43 ?_
      refine lf_putf (ci := 10) (k := 0) h lf_a389 rfl (by decide) rfl rfl rfl ?_
      intro s13 h
      refine lf_aload rfl ?_
      refine lf_getf (ci := 10) (k := 0) lf_a389 rfl (by decide) rfl ?_
      refine lf_if_le h (fun h => ?_) (fun h => ?_)
      · refine lf_blk B_Mod_holt_59 ?_
        refine lf_aload rfl ?_
        refine lf_getr (ci := 10) (k := 1) lf_a389 rfl (by decide) rfl ?_
        refine lf_iconst lf_c0 ?_
        refine lf_dup2 ?_
        refine lf_iald h lf_a390 ?_
        intro k14 h
        refine lf_iconst lf_c1 ?_
        refine lf_iadd ?_
        refine lf_iast h lf_a390 ?_
        intro s16 h
        refine lf_aload rfl ?_
        refine lf_iconst lf_c0 ?_
        refine lf_putf (ci := 10) (k := 6) h lf_a389 rfl (by decide) rfl rfl rfl ?_
        intro s17 h
        refine lf_aload rfl ?_
        refine lf_getr (ci := 10) (k := 1) lf_a389 rfl (by decide) rfl ?_
        refine lf_iconst lf_c0 ?_
        refine lf_iald h lf_a390 ?_
        intro k18 h
        cases h
        exact lf_iret ⟨rfl, rfl, rfl⟩
      · refine lf_aload rfl ?_
        refine lf_callVWu (as := []) (rest := []) h rfl rfl lf_a389 rfl (Nat.le_trans (by decide) hd) rfl rfl (fun p19 h9 => s_Mod_comesBack h9) ?_
        intro p19 h
        refine lf_iconst lf_c0 ?_
        cases h
        exact lf_iret ⟨rfl, rfl, rfl⟩
  · refine lf_iconst lf_c1 ?_
    refine lf_goto ?_
    refine lf_blk B_Mod_holt_43 ?_
    refine lf_putf (ci := 10) (k := 0) h lf_a389 rfl (by decide) rfl rfl rfl ?_
    intro s20 h
    refine lf_aload rfl ?_
    refine lf_getf (ci := 10) (k := 0) lf_a389 rfl (by decide) rfl ?_
    refine lf_if_le h (fun h => ?_) (fun h => ?_)
    · refine lf_blk B_Mod_holt_59 ?_
      refine lf_aload rfl ?_
      refine lf_getr (ci := 10) (k := 1) lf_a389 rfl (by decide) rfl ?_
      refine lf_iconst lf_c0 ?_
      refine lf_dup2 ?_
      refine lf_iald h lf_a390 ?_
      intro k21 h
      refine lf_iconst lf_c1 ?_
      refine lf_iadd ?_
      refine lf_iast h lf_a390 ?_
      intro s23 h
      refine lf_aload rfl ?_
      refine lf_iconst lf_c0 ?_
      refine lf_putf (ci := 10) (k := 6) h lf_a389 rfl (by decide) rfl rfl rfl ?_
      intro s24 h
      refine lf_aload rfl ?_
      refine lf_getr (ci := 10) (k := 1) lf_a389 rfl (by decide) rfl ?_
      refine lf_iconst lf_c0 ?_
      refine lf_iald h lf_a390 ?_
      intro k25 h
      cases h
      exact lf_iret ⟨rfl, rfl, rfl⟩
    · refine lf_aload rfl ?_
      refine lf_callVWu (as := []) (rest := []) h rfl rfl lf_a389 rfl (Nat.le_trans (by decide) hd) rfl rfl (fun p26 h9 => s_Mod_comesBack h9) ?_
      intro p26 h
      refine lf_iconst lf_c0 ?_
      cases h
      exact lf_iret ⟨rfl, rfl, rfl⟩
theorem s_Mod_law_55 {sc : Nat × (Nat → Int32)} {d : Nat} {Q : mj_Q} {cl : Bool} {rc rs : Nat} {c1 : Int32} {p : lf_S} (hd : 0 ≤ d) (hk : lf_wp sc d j_Mod_law Q 85 [.ref 389, .int c1, mj_U] [] (lf_hp p) cl rc rs) : ∀ (n : Nat) (v2 : Int32) (s : lf_S), f_Mod_law_55 c1 n v2 s = some p → lf_wp sc d j_Mod_law Q 55 [.ref 389, .int c1, .int v2] [] (lf_hp s) cl rc rs := by
  intro n
  induction n with
  | zero =>
    intro v2 s h
    exact absurd h (fun z => by cases z)
  | succ n ih =>
    intro v2 s h
    unfold f_Mod_law_55 at h
    refine lf_blk B_Mod_law_55 ?_
    refine lf_iload rfl ?_
    refine lf_aload rfl ?_
    refine lf_getf (ci := 10) (k := 10) lf_a389 rfl (by decide) rfl ?_
    refine lf_icmp_ge h (fun h => ?_) (fun h => ?_)
    · rw [← Option.some.inj h] at hk
      exact mj_w_weak (ls := [.ref 389, .int c1, mj_U]) (lf_rl (lf_rl (lf_ri (lf_r0)))) hk
    · refine lf_aload rfl ?_
      refine lf_getr (ci := 10) (k := 1) lf_a389 rfl (by decide) rfl ?_
      refine lf_iconst lf_c366 ?_
      refine lf_iload rfl ?_
      refine lf_iadd ?_
      refine lf_aload rfl ?_
      refine lf_getr (ci := 10) (k := 7) lf_a389 rfl (by decide) rfl ?_
      refine lf_iload rfl ?_
      refine lf_iald h lf_a394 ?_
      intro k10 h
      refine lf_iast h lf_a390 ?_
      intro s12 h
      refine lf_iinc (L := fun y13 => [.ref 389, .int c1, .int y13]) h lf_c1 rfl rfl (fun _ => rfl) ?_
      intro y13 h
      refine lf_goto ?_
      exact mj_w_weak (ls := [.ref 389, .int c1, .int y13]) (lf_rl (lf_rl (lf_rl (lf_r0)))) (ih y13 s12 h)
theorem s_Mod_law {sc : Nat × (Nat → Int32)} {s : lf_S} {p : Int32 × lf_S} (h : f_Mod_law s = some p) : lf_ok sc 74 j_Mod_law [.ref 389] s (some (.int p.1)) p.2 := by
  refine lf_in (D := 73) (ls := [.ref 389, mj_U, mj_U]) rfl (lf_zi (by decide +kernel)) rfl ?_
  intro d hd cl rc rs
  unfold f_Mod_law at h
  refine lf_blk B_Mod_law_0 ?_
  refine lf_aload rfl ?_
  refine lf_callVWu (as := []) (rest := []) h rfl rfl lf_a389 rfl (Nat.le_trans (by decide) hd) rfl rfl (fun p1 h9 => s_Mod_begins h9) ?_
  intro p1 h
  refine lf_aload rfl ?_
  refine lf_iconst lf_c1 ?_
  refine lf_callVWi (as := [.int (1 : Int32)]) (rest := []) h rfl rfl lf_a389 rfl (Nat.le_trans (by decide) hd) rfl rfl (fun p2 h9 => s_Mod_read h9) ?_
  intro p2 h
  refine lf_istore (L := fun y3 => [.ref 389, .int y3, mj_U]) h rfl rfl (fun _ => rfl) ?_
  intro y3 h
  refine lf_aload rfl ?_
  refine lf_aload rfl ?_
  refine lf_getf (ci := 10) (k := 12) lf_a389 rfl (by decide) rfl ?_
  refine lf_iconst lf_cm1 ?_
  refine lf_icmp_eq h (fun h => ?_) (fun h => ?_)
  · refine lf_blk B_Mod_law_23 ?_
    refine lf_iconst lf_c0 ?_
    refine lf_end ?_
    refine lf_blk B_Mod_law_24 ?_
    refine lf_putf (ci := 10) (k := 0) h lf_a389 rfl (by decide) rfl rfl rfl ?_
    intro s4 h
    refine lf_aload rfl ?_
    refine lf_getf (ci := 10) (k := 0) lf_a389 rfl (by decide) rfl ?_
    refine lf_if_le h (fun h => ?_) (fun h => ?_)
    · refine lf_blk B_Mod_law_36 ?_
      refine lf_aload rfl ?_
      refine lf_getr (ci := 10) (k := 1) lf_a389 rfl (by decide) rfl ?_
      refine lf_iconst lf_c1 ?_
      refine lf_iload rfl ?_
      refine lf_iast h lf_a390 ?_
      intro s6 h
      refine lf_aload rfl ?_
      refine lf_getr (ci := 10) (k := 1) lf_a389 rfl (by decide) rfl ?_
      refine lf_iconst lf_c2 ?_
      refine lf_aload rfl ?_
      refine lf_getf (ci := 10) (k := 10) lf_a389 rfl (by decide) rfl ?_
      refine lf_iast h lf_a390 ?_
      intro s8 h
      refine lf_iconst lf_c0 ?_
      refine lf_istore (L := fun y9 => [.ref 389, .int y3, .int y9]) h rfl rfl (fun _ => rfl) ?_
      intro y9 h
      refine lf_end ?_
      refine lf_loop h (fun p14 hp14 h => ?_)
      refine mj_w_weak (ls := [.ref 389, .int y3, .int y9]) (lf_rl (lf_rl (lf_rl (lf_r0)))) ?_
      refine s_Mod_law_55 (Nat.le_trans (by decide) hd) ?_ 5000 y9 s8 hp14
      refine lf_blk B_Mod_law_85 ?_
      refine lf_aload rfl ?_
      refine lf_iconst lf_c0 ?_
      refine lf_putf (ci := 10) (k := 6) h lf_a389 rfl (by decide) rfl rfl rfl ?_
      intro s15 h
      refine lf_iload rfl ?_
      cases h
      exact lf_iret ⟨rfl, rfl, rfl⟩
    · refine lf_iconst lf_c0 ?_
      cases h
      exact lf_iret ⟨rfl, rfl, rfl⟩
  · refine lf_iconst lf_c1 ?_
    refine lf_goto ?_
    refine lf_blk B_Mod_law_24 ?_
    refine lf_putf (ci := 10) (k := 0) h lf_a389 rfl (by decide) rfl rfl rfl ?_
    intro s16 h
    refine lf_aload rfl ?_
    refine lf_getf (ci := 10) (k := 0) lf_a389 rfl (by decide) rfl ?_
    refine lf_if_le h (fun h => ?_) (fun h => ?_)
    · refine lf_blk B_Mod_law_36 ?_
      refine lf_aload rfl ?_
      refine lf_getr (ci := 10) (k := 1) lf_a389 rfl (by decide) rfl ?_
      refine lf_iconst lf_c1 ?_
      refine lf_iload rfl ?_
      refine lf_iast h lf_a390 ?_
      intro s18 h
      refine lf_aload rfl ?_
      refine lf_getr (ci := 10) (k := 1) lf_a389 rfl (by decide) rfl ?_
      refine lf_iconst lf_c2 ?_
      refine lf_aload rfl ?_
      refine lf_getf (ci := 10) (k := 10) lf_a389 rfl (by decide) rfl ?_
      refine lf_iast h lf_a390 ?_
      intro s20 h
      refine lf_iconst lf_c0 ?_
      refine lf_istore (L := fun y21 => [.ref 389, .int y3, .int y21]) h rfl rfl (fun _ => rfl) ?_
      intro y21 h
      refine lf_end ?_
      refine lf_loop h (fun p22 hp22 h => ?_)
      refine mj_w_weak (ls := [.ref 389, .int y3, .int y21]) (lf_rl (lf_rl (lf_rl (lf_r0)))) ?_
      refine s_Mod_law_55 (Nat.le_trans (by decide) hd) ?_ 5000 y21 s20 hp22
      refine lf_blk B_Mod_law_85 ?_
      refine lf_aload rfl ?_
      refine lf_iconst lf_c0 ?_
      refine lf_putf (ci := 10) (k := 6) h lf_a389 rfl (by decide) rfl rfl rfl ?_
      intro s23 h
      refine lf_iload rfl ?_
      cases h
      exact lf_iret ⟨rfl, rfl, rfl⟩
    · refine lf_iconst lf_c0 ?_
      cases h
      exact lf_iret ⟨rfl, rfl, rfl⟩
theorem s_Mod_asks_24 {sc : Nat × (Nat → Int32)} {d : Nat} {Q : mj_Q} {cl : Bool} {rc rs : Nat} {c1 : Int32} {p : lf_S} (hd : 1 ≤ d) (hk : lf_wp sc d j_Mod_asks Q 49 [.ref 389, mj_U, mj_U, mj_U] [] (lf_hp p) cl rc rs) : ∀ (n : Nat) (v2 : Int32) (s : lf_S), f_Mod_asks_24 c1 n v2 s = some p → lf_wp sc d j_Mod_asks Q 24 [.ref 389, .int c1, .int v2, mj_U] [] (lf_hp s) cl rc rs := by
  intro n
  induction n with
  | zero =>
    intro v2 s h
    exact absurd h (fun z => by cases z)
  | succ n ih =>
    intro v2 s h
    unfold f_Mod_asks_24 at h
    refine lf_blk B_Mod_asks_24 ?_
    refine lf_iload rfl ?_
    refine lf_iconst lf_c4 ?_
    refine lf_icmp_ge h (fun h => ?_) (fun h => ?_)
    · rw [← Option.some.inj h] at hk
      exact mj_w_weak (ls := [.ref 389, mj_U, mj_U, mj_U]) (lf_rl (lf_ri (lf_ri (lf_rl (lf_r0))))) hk
    · refine lf_aload rfl ?_
      refine lf_getr (ci := 10) (k := 14) lf_a389 rfl (by decide) rfl ?_
      refine lf_iload rfl ?_
      refine lf_iconst lf_c1 ?_
      refine lf_iadd ?_
      refine lf_aload rfl ?_
      refine lf_iload rfl ?_
      refine lf_iload rfl ?_
      refine lf_callVRi (as := [.int c1, .int v2]) (rest := [.int (v2 + (1 : Int32)), .ref 395]) h rfl rfl lf_a389 rfl (Nat.le_trans (by decide) hd) rfl rfl (fun p7 h9 => s_Mod_ofBed h9) ?_
      intro p7 h
      refine lf_iast h lf_a395 ?_
      intro s9 h
      refine lf_iinc (L := fun y10 => [.ref 389, .int c1, .int y10, mj_U]) h lf_c1 rfl rfl (fun _ => rfl) ?_
      intro y10 h
      refine lf_goto ?_
      exact mj_w_weak (ls := [.ref 389, .int c1, .int y10, mj_U]) (lf_rl (lf_rl (lf_rl (lf_rl (lf_r0))))) (ih y10 s9 h)
theorem s_Mod_asks {sc : Nat × (Nat → Int32)} {x1 : Int32} {s : lf_S} {p : lf_S} (h : f_Mod_asks x1 s = some p) : lf_ok sc 74 j_Mod_asks [.ref 389, .int x1] s (none) p := by
  refine lf_in (D := 73) (ls := [.ref 389, .int x1, mj_U, mj_U]) rfl (lf_zi (by decide +kernel)) rfl ?_
  intro d hd cl rc rs
  unfold f_Mod_asks at h
  refine lf_blk B_Mod_asks_0 ?_
  refine lf_aload rfl ?_
  refine lf_aload rfl ?_
  refine lf_iload rfl ?_
  refine lf_iconst lf_c1 ?_
  refine lf_callVRi (as := [.int x1, .int (1 : Int32)]) (rest := [.ref 389]) h rfl rfl lf_a389 rfl (Nat.le_trans (by decide) hd) rfl rfl (fun p1 h9 => s_Mod_ofBed h9) ?_
  intro p1 h
  refine lf_putf (ci := 10) (k := 15) h lf_a389 rfl (by decide) rfl rfl rfl ?_
  intro s2 h
  refine lf_aload rfl ?_
  refine lf_iconst lf_c5 ?_
  refine lf_putf (ci := 10) (k := 16) h lf_a389 rfl (by decide) rfl rfl rfl ?_
  intro s3 h
  refine lf_aload rfl ?_
  refine lf_getr (ci := 10) (k := 14) lf_a389 rfl (by decide) rfl ?_
  refine lf_iconst lf_c0 ?_
  refine lf_iload rfl ?_
  refine lf_iast h lf_a395 ?_
  intro s5 h
  refine lf_iconst lf_c0 ?_
  refine lf_istore (L := fun y6 => [.ref 389, .int x1, .int y6, mj_U]) h rfl rfl (fun _ => rfl) ?_
  intro y6 h
  refine lf_end ?_
  refine lf_loop h (fun p11 hp11 h => ?_)
  refine mj_w_weak (ls := [.ref 389, .int x1, .int y6, mj_U]) (lf_rl (lf_rl (lf_rl (lf_rl (lf_r0))))) ?_
  refine s_Mod_asks_24 (Nat.le_trans (by decide) hd) ?_ 5000 y6 s5 hp11
  refine lf_blk B_Mod_asks_49 ?_
  refine lf_aload rfl ?_
  refine lf_getr (ci := 10) (k := 14) lf_a389 rfl (by decide) rfl ?_
  refine lf_iconst lf_c5 ?_
  refine lf_aload rfl ?_
  refine lf_getr (ci := 10) (k := 1) lf_a389 rfl (by decide) rfl ?_
  refine lf_iconst lf_c8 ?_
  refine lf_iald h lf_a390 ?_
  intro k12 h
  refine lf_iast h lf_a395 ?_
  intro s14 h
  refine lf_aload rfl ?_
  refine lf_getr (ci := 10) (k := 14) lf_a389 rfl (by decide) rfl ?_
  refine lf_iconst lf_c6 ?_
  refine lf_aload rfl ?_
  refine lf_getr (ci := 10) (k := 1) lf_a389 rfl (by decide) rfl ?_
  refine lf_iconst lf_c9 ?_
  refine lf_iald h lf_a390 ?_
  intro k15 h
  refine lf_iconst lf_c100 ?_
  refine lf_irem (by decide) ?_
  refine lf_iast h lf_a395 ?_
  intro s17 h
  refine lf_aload rfl ?_
  refine lf_getf (ci := 10) (k := 12) lf_a389 rfl (by decide) rfl ?_
  refine lf_istore (L := fun y18 => [.ref 389, mj_U, .int y18, mj_U]) h rfl rfl (fun _ => rfl) ?_
  intro y18 h
  refine lf_aload rfl ?_
  refine lf_iconst lf_cm1 ?_
  refine lf_putf (ci := 10) (k := 12) h lf_a389 rfl (by decide) rfl rfl rfl ?_
  intro s19 h
  refine lf_aload rfl ?_
  refine lf_iconst lf_c366 ?_
  refine lf_putf (ci := 10) (k := 9) h lf_a389 rfl (by decide) rfl rfl rfl ?_
  intro s20 h
  refine lf_aload rfl ?_
  refine lf_aload rfl ?_
  refine lf_getr (ci := 10) (k := 1) lf_a389 rfl (by decide) rfl ?_
  refine lf_iconst lf_c1 ?_
  refine lf_iald h lf_a390 ?_
  intro k21 h
  refine lf_iconst lf_c1 ?_
  refine lf_icmp_ge h (fun h => ?_) (fun h => ?_)
  · refine lf_blk B_Mod_asks_111 ?_
    refine lf_aload rfl ?_
    refine lf_getr (ci := 10) (k := 1) lf_a389 rfl (by decide) rfl ?_
    refine lf_iconst lf_c2 ?_
    refine lf_iald h lf_a390 ?_
    intro k22 h
    refine lf_end ?_
    refine lf_blk B_Mod_asks_117 ?_
    refine lf_putf (ci := 10) (k := 10) h lf_a389 rfl (by decide) rfl rfl rfl ?_
    intro s23 h
    refine lf_aload rfl ?_
    refine lf_iconst lf_c0 ?_
    refine lf_putf (ci := 10) (k := 11) h lf_a389 rfl (by decide) rfl rfl rfl ?_
    intro s24 h
    refine lf_aload rfl ?_
    refine lf_iconst lf_c0 ?_
    refine lf_putf (ci := 10) (k := 13) h lf_a389 rfl (by decide) rfl rfl rfl ?_
    intro s25 h
    refine lf_aload rfl ?_
    refine lf_iconst lf_c1 ?_
    refine lf_callVWi (as := [.int (1 : Int32)]) (rest := []) h rfl rfl lf_a389 rfl (Nat.le_trans (by decide) hd) rfl rfl (fun p26 h9 => s_Mod_read h9) ?_
    intro p26 h
    refine lf_istore (L := fun y27 => [.ref 389, mj_U, .int y18, .int y27]) h rfl rfl (fun _ => rfl) ?_
    intro y27 h
    refine lf_aload rfl ?_
    refine lf_iload rfl ?_
    refine lf_putf (ci := 10) (k := 12) h lf_a389 rfl (by decide) rfl rfl rfl ?_
    intro s28 h
    refine lf_aload rfl ?_
    refine lf_iconst lf_c0 ?_
    refine lf_iconst lf_c6 ?_
    refine lf_aload rfl ?_
    refine lf_getf (ci := 10) (k := 15) lf_a389 rfl (by decide) rfl ?_
    refine lf_callSRi (as := [.int (6 : Int32), .int (s28.1 389 15)]) (rest := [.int (0 : Int32), .ref 389]) h rfl rfl (Nat.le_trans (by decide) hd) rfl rfl (fun p29 h9 => s_Mod_lesser h9) ?_
    intro p29 h
    refine lf_callSRi (as := [.int (0 : Int32), .int p29]) (rest := [.ref 389]) h rfl rfl (Nat.le_trans (by decide) hd) rfl rfl (fun p30 h9 => s_Mod_greater h9) ?_
    intro p30 h
    refine lf_putf (ci := 10) (k := 15) h lf_a389 rfl (by decide) rfl rfl rfl ?_
    intro s31 h
    cases h
    exact lf_ret ⟨rfl, rfl, rfl⟩
  · refine lf_iconst lf_c0 ?_
    refine lf_goto ?_
    refine lf_blk B_Mod_asks_117 ?_
    refine lf_putf (ci := 10) (k := 10) h lf_a389 rfl (by decide) rfl rfl rfl ?_
    intro s32 h
    refine lf_aload rfl ?_
    refine lf_iconst lf_c0 ?_
    refine lf_putf (ci := 10) (k := 11) h lf_a389 rfl (by decide) rfl rfl rfl ?_
    intro s33 h
    refine lf_aload rfl ?_
    refine lf_iconst lf_c0 ?_
    refine lf_putf (ci := 10) (k := 13) h lf_a389 rfl (by decide) rfl rfl rfl ?_
    intro s34 h
    refine lf_aload rfl ?_
    refine lf_iconst lf_c1 ?_
    refine lf_callVWi (as := [.int (1 : Int32)]) (rest := []) h rfl rfl lf_a389 rfl (Nat.le_trans (by decide) hd) rfl rfl (fun p35 h9 => s_Mod_read h9) ?_
    intro p35 h
    refine lf_istore (L := fun y36 => [.ref 389, mj_U, .int y18, .int y36]) h rfl rfl (fun _ => rfl) ?_
    intro y36 h
    refine lf_aload rfl ?_
    refine lf_iload rfl ?_
    refine lf_putf (ci := 10) (k := 12) h lf_a389 rfl (by decide) rfl rfl rfl ?_
    intro s37 h
    refine lf_aload rfl ?_
    refine lf_iconst lf_c0 ?_
    refine lf_iconst lf_c6 ?_
    refine lf_aload rfl ?_
    refine lf_getf (ci := 10) (k := 15) lf_a389 rfl (by decide) rfl ?_
    refine lf_callSRi (as := [.int (6 : Int32), .int (s37.1 389 15)]) (rest := [.int (0 : Int32), .ref 389]) h rfl rfl (Nat.le_trans (by decide) hd) rfl rfl (fun p38 h9 => s_Mod_lesser h9) ?_
    intro p38 h
    refine lf_callSRi (as := [.int (0 : Int32), .int p38]) (rest := [.ref 389]) h rfl rfl (Nat.le_trans (by decide) hd) rfl rfl (fun p39 h9 => s_Mod_greater h9) ?_
    intro p39 h
    refine lf_putf (ci := 10) (k := 15) h lf_a389 rfl (by decide) rfl rfl rfl ?_
    intro s40 h
    cases h
    exact lf_ret ⟨rfl, rfl, rfl⟩
theorem s_Mod_reachOf {sc : Nat × (Nat → Int32)} {x1 : Int32} {s : lf_S} {p : Int32 × lf_S} (h : f_Mod_reachOf x1 s = some p) : lf_ok sc 75 j_Mod_reachOf [.ref 389, .int x1] s (some (.int p.1)) p.2 := by
  refine lf_in (D := 74) (ls := [.ref 389, .int x1]) rfl (lf_zi (by decide +kernel)) rfl ?_
  intro d hd cl rc rs
  unfold f_Mod_reachOf at h
  refine lf_blk B_Mod_reachOf_0 ?_
  refine lf_aload rfl ?_
  refine lf_iload rfl ?_
  refine lf_callVWu (as := [.int x1]) (rest := []) h rfl rfl lf_a389 rfl (Nat.le_trans (by decide) hd) rfl rfl (fun p1 h9 => s_Mod_asks h9) ?_
  intro p1 h
  refine lf_aload rfl ?_
  refine lf_getf (ci := 10) (k := 15) lf_a389 rfl (by decide) rfl ?_
  cases h
  exact lf_iret ⟨rfl, rfl, rfl⟩
theorem s_Mod_yieldOf {sc : Nat × (Nat → Int32)} {x1 : Int32} {s : lf_S} {p : Int32 × lf_S} (h : f_Mod_yieldOf x1 s = some p) : lf_ok sc 76 j_Mod_yieldOf [.ref 389, .int x1] s (some (.int p.1)) p.2 := by
  refine lf_in (D := 75) (ls := [.ref 389, .int x1]) rfl (lf_zi (by decide +kernel)) rfl ?_
  intro d hd cl rc rs
  unfold f_Mod_yieldOf at h
  refine lf_blk B_Mod_yieldOf_0 ?_
  refine lf_aload rfl ?_
  refine lf_iload rfl ?_
  refine lf_callVWi (as := [.int x1]) (rest := []) h rfl rfl lf_a389 rfl (Nat.le_trans (by decide) hd) rfl rfl (fun p1 h9 => s_Mod_reachOf h9) ?_
  intro p1 h
  refine lf_if_ne h (fun h => ?_) (fun h => ?_)
  · refine lf_blk B_Mod_yieldOf_12 ?_
    refine lf_iconst lf_c2 ?_
    refine lf_aload rfl ?_
    refine lf_iload rfl ?_
    refine lf_iconst lf_c2 ?_
    refine lf_callVRi (as := [.int x1, .int (2 : Int32)]) (rest := [.int (2 : Int32)]) h rfl rfl lf_a389 rfl (Nat.le_trans (by decide) hd) rfl rfl (fun p2 h9 => s_Mod_ofBed h9) ?_
    intro p2 h
    refine lf_imul ?_
    refine lf_end ?_
    refine lf_blk B_Mod_yieldOf_20 ?_
    cases h
    exact lf_iret ⟨rfl, rfl, rfl⟩
  · refine lf_iconst lf_c0 ?_
    refine lf_goto ?_
    refine lf_blk B_Mod_yieldOf_20 ?_
    cases h
    exact lf_iret ⟨rfl, rfl, rfl⟩
theorem s_Mod_bed {sc : Nat × (Nat → Int32)} {x1 : Int32} {x2 : Int32} {s : lf_S} {p : Int32 × lf_S} (h : f_Mod_bed x1 x2 s = some p) : lf_ok sc 77 j_Mod_bed [.ref 389, .int x1, .int x2] s (some (.int p.1)) p.2 := by
  refine lf_in (D := 76) (ls := [.ref 389, .int x1, .int x2]) rfl (lf_zi (by decide +kernel)) rfl ?_
  intro d hd cl rc rs
  unfold f_Mod_bed at h
  refine lf_blk B_Mod_bed_0 ?_
  refine lf_aload rfl ?_
  refine lf_aload rfl ?_
  refine lf_iload rfl ?_
  refine lf_callVRb (as := [.int x1]) (rest := [.ref 389]) h rfl rfl lf_a389 rfl (Nat.le_trans (by decide) hd) rfl rfl (fun p1 h9 => s_Mod_isBed h9) ?_
  intro p1 h
  refine lf_ifb_ne h (fun h => ?_) (fun h => ?_)
  · refine lf_blk B_Mod_bed_13 ?_
    refine lf_iload rfl ?_
    refine lf_iconst lf_c0 ?_
    refine lf_iconst lf_c7 ?_
    refine lf_callSRb (as := [.int x2, .int (0 : Int32), .int (7 : Int32)]) (rest := [.ref 389]) h rfl rfl (Nat.le_trans (by decide) hd) rfl rfl (fun p2 h9 => s_Mod_isIn h9) ?_
    intro p2 h
    refine lf_ifb_ne h (fun h => ?_) (fun h => ?_)
    · refine lf_blk B_Mod_bed_27 ?_
      refine lf_iconst lf_c0 ?_
      refine lf_end ?_
      refine lf_blk B_Mod_bed_28 ?_
      refine lf_putf (ci := 10) (k := 0) h lf_a389 rfl (by decide) rfl rfl rfl ?_
      intro s3 h
      refine lf_aload rfl ?_
      refine lf_getf (ci := 10) (k := 0) lf_a389 rfl (by decide) rfl ?_
      refine lf_if_le h (fun h => ?_) (fun h => ?_)
      · refine lf_blk B_Mod_bed_40 ?_
        refine lf_iload rfl ?_
        refine lf_iconst lf_c4 ?_
        refine lf_icmp_ge h (fun h => ?_) (fun h => ?_)
        · refine lf_blk B_Mod_bed_52 ?_
          refine lf_iload rfl ?_
          refine lf_iconst lf_c4 ?_
          refine lf_icmp_ne h (fun h => ?_) (fun h => ?_)
          · refine lf_blk B_Mod_bed_63 ?_
            refine lf_iload rfl ?_
            refine lf_iconst lf_c5 ?_
            refine lf_icmp_ne h (fun h => ?_) (fun h => ?_)
            · refine lf_blk B_Mod_bed_74 ?_
              refine lf_iload rfl ?_
              refine lf_iconst lf_c7 ?_
              refine lf_icmp_ne h (fun h => ?_) (fun h => ?_)
              · refine lf_blk B_Mod_bed_95 ?_
                refine lf_aload rfl ?_
                refine lf_iload rfl ?_
                refine lf_callVWu (as := [.int x1]) (rest := []) h rfl rfl lf_a389 rfl (Nat.le_trans (by decide) hd) rfl rfl (fun p4 h9 => s_Mod_asks h9) ?_
                intro p4 h
                refine lf_aload rfl ?_
                refine lf_getf (ci := 10) (k := 16) lf_a389 rfl (by decide) rfl ?_
                cases h
                exact lf_iret ⟨rfl, rfl, rfl⟩
              · refine lf_iconst lf_c100 ?_
                refine lf_aload rfl ?_
                refine lf_iload rfl ?_
                refine lf_iconst lf_c2 ?_
                refine lf_callVRi (as := [.int x1, .int (2 : Int32)]) (rest := [.int (100 : Int32)]) h rfl rfl lf_a389 rfl (Nat.le_trans (by decide) hd) rfl rfl (fun p5 h9 => s_Mod_ofBed h9) ?_
                intro p5 h
                refine lf_imul ?_
                refine lf_aload rfl ?_
                refine lf_callVRi (as := []) (rest := [.int ((100 : Int32) * p5)]) h rfl rfl lf_a389 rfl (Nat.le_trans (by decide) hd) rfl rfl (fun p6 h9 => s_Mod_stoolsOfAll h9) ?_
                intro p6 h
                refine lf_idivz h ?_
                intro h
                cases h
                exact lf_iret ⟨rfl, rfl, rfl⟩
            · refine lf_aload rfl ?_
              refine lf_iload rfl ?_
              refine lf_callVWi (as := [.int x1]) (rest := []) h rfl rfl lf_a389 rfl (Nat.le_trans (by decide) hd) rfl rfl (fun p7 h9 => s_Mod_yieldOf h9) ?_
              intro p7 h
              cases h
              exact lf_iret ⟨rfl, rfl, rfl⟩
          · refine lf_aload rfl ?_
            refine lf_iload rfl ?_
            refine lf_callVWi (as := [.int x1]) (rest := []) h rfl rfl lf_a389 rfl (Nat.le_trans (by decide) hd) rfl rfl (fun p8 h9 => s_Mod_reachOf h9) ?_
            intro p8 h
            cases h
            exact lf_iret ⟨rfl, rfl, rfl⟩
        · refine lf_aload rfl ?_
          refine lf_iload rfl ?_
          refine lf_iload rfl ?_
          refine lf_callVRi (as := [.int x1, .int x2]) (rest := []) h rfl rfl lf_a389 rfl (Nat.le_trans (by decide) hd) rfl rfl (fun p9 h9 => s_Mod_ofBed h9) ?_
          intro p9 h
          cases h
          exact lf_iret ⟨rfl, rfl, rfl⟩
      · refine lf_iconst lf_c0 ?_
        cases h
        exact lf_iret ⟨rfl, rfl, rfl⟩
    · refine lf_iconst lf_c2 ?_
      refine lf_goto ?_
      refine lf_blk B_Mod_bed_28 ?_
      refine lf_putf (ci := 10) (k := 0) h lf_a389 rfl (by decide) rfl rfl rfl ?_
      intro s10 h
      refine lf_aload rfl ?_
      refine lf_getf (ci := 10) (k := 0) lf_a389 rfl (by decide) rfl ?_
      refine lf_if_le h (fun h => ?_) (fun h => ?_)
      · refine lf_blk B_Mod_bed_40 ?_
        refine lf_iload rfl ?_
        refine lf_iconst lf_c4 ?_
        refine lf_icmp_ge h (fun h => ?_) (fun h => ?_)
        · refine lf_blk B_Mod_bed_52 ?_
          refine lf_iload rfl ?_
          refine lf_iconst lf_c4 ?_
          refine lf_icmp_ne h (fun h => ?_) (fun h => ?_)
          · refine lf_blk B_Mod_bed_63 ?_
            refine lf_iload rfl ?_
            refine lf_iconst lf_c5 ?_
            refine lf_icmp_ne h (fun h => ?_) (fun h => ?_)
            · refine lf_blk B_Mod_bed_74 ?_
              refine lf_iload rfl ?_
              refine lf_iconst lf_c7 ?_
              refine lf_icmp_ne h (fun h => ?_) (fun h => ?_)
              · refine lf_blk B_Mod_bed_95 ?_
                refine lf_aload rfl ?_
                refine lf_iload rfl ?_
                refine lf_callVWu (as := [.int x1]) (rest := []) h rfl rfl lf_a389 rfl (Nat.le_trans (by decide) hd) rfl rfl (fun p11 h9 => s_Mod_asks h9) ?_
                intro p11 h
                refine lf_aload rfl ?_
                refine lf_getf (ci := 10) (k := 16) lf_a389 rfl (by decide) rfl ?_
                cases h
                exact lf_iret ⟨rfl, rfl, rfl⟩
              · refine lf_iconst lf_c100 ?_
                refine lf_aload rfl ?_
                refine lf_iload rfl ?_
                refine lf_iconst lf_c2 ?_
                refine lf_callVRi (as := [.int x1, .int (2 : Int32)]) (rest := [.int (100 : Int32)]) h rfl rfl lf_a389 rfl (Nat.le_trans (by decide) hd) rfl rfl (fun p12 h9 => s_Mod_ofBed h9) ?_
                intro p12 h
                refine lf_imul ?_
                refine lf_aload rfl ?_
                refine lf_callVRi (as := []) (rest := [.int ((100 : Int32) * p12)]) h rfl rfl lf_a389 rfl (Nat.le_trans (by decide) hd) rfl rfl (fun p13 h9 => s_Mod_stoolsOfAll h9) ?_
                intro p13 h
                refine lf_idivz h ?_
                intro h
                cases h
                exact lf_iret ⟨rfl, rfl, rfl⟩
            · refine lf_aload rfl ?_
              refine lf_iload rfl ?_
              refine lf_callVWi (as := [.int x1]) (rest := []) h rfl rfl lf_a389 rfl (Nat.le_trans (by decide) hd) rfl rfl (fun p14 h9 => s_Mod_yieldOf h9) ?_
              intro p14 h
              cases h
              exact lf_iret ⟨rfl, rfl, rfl⟩
          · refine lf_aload rfl ?_
            refine lf_iload rfl ?_
            refine lf_callVWi (as := [.int x1]) (rest := []) h rfl rfl lf_a389 rfl (Nat.le_trans (by decide) hd) rfl rfl (fun p15 h9 => s_Mod_reachOf h9) ?_
            intro p15 h
            cases h
            exact lf_iret ⟨rfl, rfl, rfl⟩
        · refine lf_aload rfl ?_
          refine lf_iload rfl ?_
          refine lf_iload rfl ?_
          refine lf_callVRi (as := [.int x1, .int x2]) (rest := []) h rfl rfl lf_a389 rfl (Nat.le_trans (by decide) hd) rfl rfl (fun p16 h9 => s_Mod_ofBed h9) ?_
          intro p16 h
          cases h
          exact lf_iret ⟨rfl, rfl, rfl⟩
      · refine lf_iconst lf_c0 ?_
        cases h
        exact lf_iret ⟨rfl, rfl, rfl⟩
  · refine lf_iconst lf_c1 ?_
    refine lf_goto ?_
    refine lf_blk B_Mod_bed_28 ?_
    refine lf_putf (ci := 10) (k := 0) h lf_a389 rfl (by decide) rfl rfl rfl ?_
    intro s17 h
    refine lf_aload rfl ?_
    refine lf_getf (ci := 10) (k := 0) lf_a389 rfl (by decide) rfl ?_
    refine lf_if_le h (fun h => ?_) (fun h => ?_)
    · refine lf_blk B_Mod_bed_40 ?_
      refine lf_iload rfl ?_
      refine lf_iconst lf_c4 ?_
      refine lf_icmp_ge h (fun h => ?_) (fun h => ?_)
      · refine lf_blk B_Mod_bed_52 ?_
        refine lf_iload rfl ?_
        refine lf_iconst lf_c4 ?_
        refine lf_icmp_ne h (fun h => ?_) (fun h => ?_)
        · refine lf_blk B_Mod_bed_63 ?_
          refine lf_iload rfl ?_
          refine lf_iconst lf_c5 ?_
          refine lf_icmp_ne h (fun h => ?_) (fun h => ?_)
          · refine lf_blk B_Mod_bed_74 ?_
            refine lf_iload rfl ?_
            refine lf_iconst lf_c7 ?_
            refine lf_icmp_ne h (fun h => ?_) (fun h => ?_)
            · refine lf_blk B_Mod_bed_95 ?_
              refine lf_aload rfl ?_
              refine lf_iload rfl ?_
              refine lf_callVWu (as := [.int x1]) (rest := []) h rfl rfl lf_a389 rfl (Nat.le_trans (by decide) hd) rfl rfl (fun p18 h9 => s_Mod_asks h9) ?_
              intro p18 h
              refine lf_aload rfl ?_
              refine lf_getf (ci := 10) (k := 16) lf_a389 rfl (by decide) rfl ?_
              cases h
              exact lf_iret ⟨rfl, rfl, rfl⟩
            · refine lf_iconst lf_c100 ?_
              refine lf_aload rfl ?_
              refine lf_iload rfl ?_
              refine lf_iconst lf_c2 ?_
              refine lf_callVRi (as := [.int x1, .int (2 : Int32)]) (rest := [.int (100 : Int32)]) h rfl rfl lf_a389 rfl (Nat.le_trans (by decide) hd) rfl rfl (fun p19 h9 => s_Mod_ofBed h9) ?_
              intro p19 h
              refine lf_imul ?_
              refine lf_aload rfl ?_
              refine lf_callVRi (as := []) (rest := [.int ((100 : Int32) * p19)]) h rfl rfl lf_a389 rfl (Nat.le_trans (by decide) hd) rfl rfl (fun p20 h9 => s_Mod_stoolsOfAll h9) ?_
              intro p20 h
              refine lf_idivz h ?_
              intro h
              cases h
              exact lf_iret ⟨rfl, rfl, rfl⟩
          · refine lf_aload rfl ?_
            refine lf_iload rfl ?_
            refine lf_callVWi (as := [.int x1]) (rest := []) h rfl rfl lf_a389 rfl (Nat.le_trans (by decide) hd) rfl rfl (fun p21 h9 => s_Mod_yieldOf h9) ?_
            intro p21 h
            cases h
            exact lf_iret ⟨rfl, rfl, rfl⟩
        · refine lf_aload rfl ?_
          refine lf_iload rfl ?_
          refine lf_callVWi (as := [.int x1]) (rest := []) h rfl rfl lf_a389 rfl (Nat.le_trans (by decide) hd) rfl rfl (fun p22 h9 => s_Mod_reachOf h9) ?_
          intro p22 h
          cases h
          exact lf_iret ⟨rfl, rfl, rfl⟩
      · refine lf_aload rfl ?_
        refine lf_iload rfl ?_
        refine lf_iload rfl ?_
        refine lf_callVRi (as := [.int x1, .int x2]) (rest := []) h rfl rfl lf_a389 rfl (Nat.le_trans (by decide) hd) rfl rfl (fun p23 h9 => s_Mod_ofBed h9) ?_
        intro p23 h
        cases h
        exact lf_iret ⟨rfl, rfl, rfl⟩
    · refine lf_iconst lf_c0 ?_
      cases h
      exact lf_iret ⟨rfl, rfl, rfl⟩
theorem s_Mod_cut {sc : Nat × (Nat → Int32)} {x1 : Int32} {s : lf_S} {p : Int32 × lf_S} (h : f_Mod_cut x1 s = some p) : lf_ok sc 76 j_Mod_cut [.ref 389, .int x1] s (some (.int p.1)) p.2 := by
  refine lf_in (D := 75) (ls := [.ref 389, .int x1, mj_U, mj_U, mj_U]) rfl (lf_zi (by decide +kernel)) rfl ?_
  intro d hd cl rc rs
  unfold f_Mod_cut at h
  refine lf_blk B_Mod_cut_0 ?_
  refine lf_aload rfl ?_
  refine lf_aload rfl ?_
  refine lf_iload rfl ?_
  refine lf_callVRb (as := [.int x1]) (rest := [.ref 389]) h rfl rfl lf_a389 rfl (Nat.le_trans (by decide) hd) rfl rfl (fun p1 h9 => s_Mod_isBed h9) ?_
  intro p1 h
  refine lf_ifb_ne h (fun h => ?_) (fun h => ?_)
  · refine lf_blk B_Mod_cut_13 ?_
    refine lf_iconst lf_c0 ?_
    refine lf_end ?_
    refine lf_blk B_Mod_cut_14 ?_
    refine lf_putf (ci := 10) (k := 0) h lf_a389 rfl (by decide) rfl rfl rfl ?_
    intro s2 h
    refine lf_aload rfl ?_
    refine lf_getf (ci := 10) (k := 0) lf_a389 rfl (by decide) rfl ?_
    refine lf_if_le h (fun h => ?_) (fun h => ?_)
    · refine lf_blk B_Mod_cut_26 ?_
      refine lf_aload rfl ?_
      refine lf_iload rfl ?_
      refine lf_callVWi (as := [.int x1]) (rest := []) h rfl rfl lf_a389 rfl (Nat.le_trans (by decide) hd) rfl rfl (fun p3 h9 => s_Mod_reachOf h9) ?_
      intro p3 h
      refine lf_istore (L := fun y4 => [.ref 389, .int x1, .int y4, mj_U, mj_U]) h rfl rfl (fun _ => rfl) ?_
      intro y4 h
      refine lf_aload rfl ?_
      refine lf_iload rfl ?_
      refine lf_if_eq h (fun h => ?_) (fun h => ?_)
      · refine lf_blk B_Mod_cut_51 ?_
        refine lf_iconst lf_c2 ?_
        refine lf_goto ?_
        refine lf_blk B_Mod_cut_56 ?_
        refine lf_putf (ci := 10) (k := 0) h lf_a389 rfl (by decide) rfl rfl rfl ?_
        intro s5 h
        refine lf_aload rfl ?_
        refine lf_getf (ci := 10) (k := 0) lf_a389 rfl (by decide) rfl ?_
        refine lf_if_le h (fun h => ?_) (fun h => ?_)
        · refine lf_blk B_Mod_cut_68 ?_
          refine lf_iconst lf_c2 ?_
          refine lf_aload rfl ?_
          refine lf_iload rfl ?_
          refine lf_iconst lf_c2 ?_
          refine lf_callVRi (as := [.int x1, .int (2 : Int32)]) (rest := [.int (2 : Int32)]) h rfl rfl lf_a389 rfl (Nat.le_trans (by decide) hd) rfl rfl (fun p6 h9 => s_Mod_ofBed h9) ?_
          intro p6 h
          refine lf_imul ?_
          refine lf_istore (L := fun y7 => [.ref 389, .int x1, .int y4, .int y7, mj_U]) h rfl rfl (fun _ => rfl) ?_
          intro y7 h
          refine lf_aload rfl ?_
          refine lf_iconst lf_c8 ?_
          refine lf_aload rfl ?_
          refine lf_getr (ci := 10) (k := 1) lf_a389 rfl (by decide) rfl ?_
          refine lf_iconst lf_c8 ?_
          refine lf_iald h lf_a390 ?_
          intro k8 h
          refine lf_aload rfl ?_
          refine lf_getf (ci := 10) (k := 16) lf_a389 rfl (by decide) rfl ?_
          refine lf_isub ?_
          refine lf_callVWi (as := [.int (8 : Int32), .int ((s5.1 390 k8) - (s5.1 389 16))]) (rest := []) h rfl rfl lf_a389 rfl (Nat.le_trans (by decide) hd) rfl rfl (fun p9 h9 => s_Mod_sets h9) ?_
          intro p9 h
          refine lf_istore (L := fun y10 => [.ref 389, .int x1, .int y4, .int y7, .int y10]) h rfl rfl (fun _ => rfl) ?_
          intro y10 h
          refine lf_aload rfl ?_
          refine lf_getr (ci := 10) (k := 1) lf_a389 rfl (by decide) rfl ?_
          refine lf_iconst lf_c37 ?_
          refine lf_iload rfl ?_
          refine lf_iadd ?_
          refine lf_iconst lf_c1 ?_
          refine lf_isub ?_
          refine lf_iconst lf_c9999 ?_
          refine lf_aload rfl ?_
          refine lf_iload rfl ?_
          refine lf_callVRi (as := [.int y4]) (rest := [.int (9999 : Int32), .int (((37 : Int32) + y4) - (1 : Int32)), .ref 390]) h rfl rfl lf_a389 rfl (Nat.le_trans (by decide) hd) rfl rfl (fun p11 h9 => s_Mod_stored h9) ?_
          intro p11 h
          refine lf_iload rfl ?_
          refine lf_iadd ?_
          refine lf_callSRi (as := [.int (9999 : Int32), .int (p11 + y7)]) (rest := [.int (((37 : Int32) + y4) - (1 : Int32)), .ref 390]) h rfl rfl (Nat.le_trans (by decide) hd) rfl rfl (fun p12 h9 => s_Mod_lesser h9) ?_
          intro p12 h
          refine lf_iast h lf_a390 ?_
          intro s14 h
          refine lf_aload rfl ?_
          refine lf_getr (ci := 10) (k := 1) lf_a389 rfl (by decide) rfl ?_
          refine lf_iconst lf_c13 ?_
          refine lf_iconst lf_c4 ?_
          refine lf_iload rfl ?_
          refine lf_imul ?_
          refine lf_iadd ?_
          refine lf_iconst lf_c1 ?_
          refine lf_iadd ?_
          refine lf_iconst lf_c0 ?_
          refine lf_iast h lf_a390 ?_
          intro s16 h
          refine lf_aload rfl ?_
          refine lf_iload rfl ?_
          refine lf_iconst lf_c0 ?_
          refine lf_iload rfl ?_
          refine lf_callVWu (as := [.int x1, .int (0 : Int32), .int y7]) (rest := []) h rfl rfl lf_a389 rfl (Nat.le_trans (by decide) hd) rfl rfl (fun p17 h9 => s_Mod_logs h9) ?_
          intro p17 h
          refine lf_iload rfl ?_
          cases h
          exact lf_iret ⟨rfl, rfl, rfl⟩
        · refine lf_iconst lf_c0 ?_
          cases h
          exact lf_iret ⟨rfl, rfl, rfl⟩
      · refine lf_aload rfl ?_
        refine lf_getf (ci := 10) (k := 16) lf_a389 rfl (by decide) rfl ?_
        refine lf_aload rfl ?_
        refine lf_getr (ci := 10) (k := 1) lf_a389 rfl (by decide) rfl ?_
        refine lf_iconst lf_c8 ?_
        refine lf_iald h lf_a390 ?_
        intro k18 h
        refine lf_icmp_le h (fun h => ?_) (fun h => ?_)
        · refine lf_blk B_Mod_cut_55 ?_
          refine lf_iconst lf_c0 ?_
          refine lf_end ?_
          refine lf_blk B_Mod_cut_56 ?_
          refine lf_putf (ci := 10) (k := 0) h lf_a389 rfl (by decide) rfl rfl rfl ?_
          intro s19 h
          refine lf_aload rfl ?_
          refine lf_getf (ci := 10) (k := 0) lf_a389 rfl (by decide) rfl ?_
          refine lf_if_le h (fun h => ?_) (fun h => ?_)
          · refine lf_blk B_Mod_cut_68 ?_
            refine lf_iconst lf_c2 ?_
            refine lf_aload rfl ?_
            refine lf_iload rfl ?_
            refine lf_iconst lf_c2 ?_
            refine lf_callVRi (as := [.int x1, .int (2 : Int32)]) (rest := [.int (2 : Int32)]) h rfl rfl lf_a389 rfl (Nat.le_trans (by decide) hd) rfl rfl (fun p20 h9 => s_Mod_ofBed h9) ?_
            intro p20 h
            refine lf_imul ?_
            refine lf_istore (L := fun y21 => [.ref 389, .int x1, .int y4, .int y21, mj_U]) h rfl rfl (fun _ => rfl) ?_
            intro y21 h
            refine lf_aload rfl ?_
            refine lf_iconst lf_c8 ?_
            refine lf_aload rfl ?_
            refine lf_getr (ci := 10) (k := 1) lf_a389 rfl (by decide) rfl ?_
            refine lf_iconst lf_c8 ?_
            refine lf_iald h lf_a390 ?_
            intro k22 h
            refine lf_aload rfl ?_
            refine lf_getf (ci := 10) (k := 16) lf_a389 rfl (by decide) rfl ?_
            refine lf_isub ?_
            refine lf_callVWi (as := [.int (8 : Int32), .int ((s19.1 390 k22) - (s19.1 389 16))]) (rest := []) h rfl rfl lf_a389 rfl (Nat.le_trans (by decide) hd) rfl rfl (fun p23 h9 => s_Mod_sets h9) ?_
            intro p23 h
            refine lf_istore (L := fun y24 => [.ref 389, .int x1, .int y4, .int y21, .int y24]) h rfl rfl (fun _ => rfl) ?_
            intro y24 h
            refine lf_aload rfl ?_
            refine lf_getr (ci := 10) (k := 1) lf_a389 rfl (by decide) rfl ?_
            refine lf_iconst lf_c37 ?_
            refine lf_iload rfl ?_
            refine lf_iadd ?_
            refine lf_iconst lf_c1 ?_
            refine lf_isub ?_
            refine lf_iconst lf_c9999 ?_
            refine lf_aload rfl ?_
            refine lf_iload rfl ?_
            refine lf_callVRi (as := [.int y4]) (rest := [.int (9999 : Int32), .int (((37 : Int32) + y4) - (1 : Int32)), .ref 390]) h rfl rfl lf_a389 rfl (Nat.le_trans (by decide) hd) rfl rfl (fun p25 h9 => s_Mod_stored h9) ?_
            intro p25 h
            refine lf_iload rfl ?_
            refine lf_iadd ?_
            refine lf_callSRi (as := [.int (9999 : Int32), .int (p25 + y21)]) (rest := [.int (((37 : Int32) + y4) - (1 : Int32)), .ref 390]) h rfl rfl (Nat.le_trans (by decide) hd) rfl rfl (fun p26 h9 => s_Mod_lesser h9) ?_
            intro p26 h
            refine lf_iast h lf_a390 ?_
            intro s28 h
            refine lf_aload rfl ?_
            refine lf_getr (ci := 10) (k := 1) lf_a389 rfl (by decide) rfl ?_
            refine lf_iconst lf_c13 ?_
            refine lf_iconst lf_c4 ?_
            refine lf_iload rfl ?_
            refine lf_imul ?_
            refine lf_iadd ?_
            refine lf_iconst lf_c1 ?_
            refine lf_iadd ?_
            refine lf_iconst lf_c0 ?_
            refine lf_iast h lf_a390 ?_
            intro s30 h
            refine lf_aload rfl ?_
            refine lf_iload rfl ?_
            refine lf_iconst lf_c0 ?_
            refine lf_iload rfl ?_
            refine lf_callVWu (as := [.int x1, .int (0 : Int32), .int y21]) (rest := []) h rfl rfl lf_a389 rfl (Nat.le_trans (by decide) hd) rfl rfl (fun p31 h9 => s_Mod_logs h9) ?_
            intro p31 h
            refine lf_iload rfl ?_
            cases h
            exact lf_iret ⟨rfl, rfl, rfl⟩
          · refine lf_iconst lf_c0 ?_
            cases h
            exact lf_iret ⟨rfl, rfl, rfl⟩
        · refine lf_end ?_
          refine lf_blk B_Mod_cut_51 ?_
          refine lf_iconst lf_c2 ?_
          refine lf_goto ?_
          refine lf_blk B_Mod_cut_56 ?_
          refine lf_putf (ci := 10) (k := 0) h lf_a389 rfl (by decide) rfl rfl rfl ?_
          intro s32 h
          refine lf_aload rfl ?_
          refine lf_getf (ci := 10) (k := 0) lf_a389 rfl (by decide) rfl ?_
          refine lf_if_le h (fun h => ?_) (fun h => ?_)
          · refine lf_blk B_Mod_cut_68 ?_
            refine lf_iconst lf_c2 ?_
            refine lf_aload rfl ?_
            refine lf_iload rfl ?_
            refine lf_iconst lf_c2 ?_
            refine lf_callVRi (as := [.int x1, .int (2 : Int32)]) (rest := [.int (2 : Int32)]) h rfl rfl lf_a389 rfl (Nat.le_trans (by decide) hd) rfl rfl (fun p33 h9 => s_Mod_ofBed h9) ?_
            intro p33 h
            refine lf_imul ?_
            refine lf_istore (L := fun y34 => [.ref 389, .int x1, .int y4, .int y34, mj_U]) h rfl rfl (fun _ => rfl) ?_
            intro y34 h
            refine lf_aload rfl ?_
            refine lf_iconst lf_c8 ?_
            refine lf_aload rfl ?_
            refine lf_getr (ci := 10) (k := 1) lf_a389 rfl (by decide) rfl ?_
            refine lf_iconst lf_c8 ?_
            refine lf_iald h lf_a390 ?_
            intro k35 h
            refine lf_aload rfl ?_
            refine lf_getf (ci := 10) (k := 16) lf_a389 rfl (by decide) rfl ?_
            refine lf_isub ?_
            refine lf_callVWi (as := [.int (8 : Int32), .int ((s32.1 390 k35) - (s32.1 389 16))]) (rest := []) h rfl rfl lf_a389 rfl (Nat.le_trans (by decide) hd) rfl rfl (fun p36 h9 => s_Mod_sets h9) ?_
            intro p36 h
            refine lf_istore (L := fun y37 => [.ref 389, .int x1, .int y4, .int y34, .int y37]) h rfl rfl (fun _ => rfl) ?_
            intro y37 h
            refine lf_aload rfl ?_
            refine lf_getr (ci := 10) (k := 1) lf_a389 rfl (by decide) rfl ?_
            refine lf_iconst lf_c37 ?_
            refine lf_iload rfl ?_
            refine lf_iadd ?_
            refine lf_iconst lf_c1 ?_
            refine lf_isub ?_
            refine lf_iconst lf_c9999 ?_
            refine lf_aload rfl ?_
            refine lf_iload rfl ?_
            refine lf_callVRi (as := [.int y4]) (rest := [.int (9999 : Int32), .int (((37 : Int32) + y4) - (1 : Int32)), .ref 390]) h rfl rfl lf_a389 rfl (Nat.le_trans (by decide) hd) rfl rfl (fun p38 h9 => s_Mod_stored h9) ?_
            intro p38 h
            refine lf_iload rfl ?_
            refine lf_iadd ?_
            refine lf_callSRi (as := [.int (9999 : Int32), .int (p38 + y34)]) (rest := [.int (((37 : Int32) + y4) - (1 : Int32)), .ref 390]) h rfl rfl (Nat.le_trans (by decide) hd) rfl rfl (fun p39 h9 => s_Mod_lesser h9) ?_
            intro p39 h
            refine lf_iast h lf_a390 ?_
            intro s41 h
            refine lf_aload rfl ?_
            refine lf_getr (ci := 10) (k := 1) lf_a389 rfl (by decide) rfl ?_
            refine lf_iconst lf_c13 ?_
            refine lf_iconst lf_c4 ?_
            refine lf_iload rfl ?_
            refine lf_imul ?_
            refine lf_iadd ?_
            refine lf_iconst lf_c1 ?_
            refine lf_iadd ?_
            refine lf_iconst lf_c0 ?_
            refine lf_iast h lf_a390 ?_
            intro s43 h
            refine lf_aload rfl ?_
            refine lf_iload rfl ?_
            refine lf_iconst lf_c0 ?_
            refine lf_iload rfl ?_
            refine lf_callVWu (as := [.int x1, .int (0 : Int32), .int y34]) (rest := []) h rfl rfl lf_a389 rfl (Nat.le_trans (by decide) hd) rfl rfl (fun p44 h9 => s_Mod_logs h9) ?_
            intro p44 h
            refine lf_iload rfl ?_
            cases h
            exact lf_iret ⟨rfl, rfl, rfl⟩
          · refine lf_iconst lf_c0 ?_
            cases h
            exact lf_iret ⟨rfl, rfl, rfl⟩
    · refine lf_iconst lf_c0 ?_
      cases h
      exact lf_iret ⟨rfl, rfl, rfl⟩
  · refine lf_iconst lf_c1 ?_
    refine lf_goto ?_
    refine lf_blk B_Mod_cut_14 ?_
    refine lf_putf (ci := 10) (k := 0) h lf_a389 rfl (by decide) rfl rfl rfl ?_
    intro s45 h
    refine lf_aload rfl ?_
    refine lf_getf (ci := 10) (k := 0) lf_a389 rfl (by decide) rfl ?_
    refine lf_if_le h (fun h => ?_) (fun h => ?_)
    · refine lf_blk B_Mod_cut_26 ?_
      refine lf_aload rfl ?_
      refine lf_iload rfl ?_
      refine lf_callVWi (as := [.int x1]) (rest := []) h rfl rfl lf_a389 rfl (Nat.le_trans (by decide) hd) rfl rfl (fun p46 h9 => s_Mod_reachOf h9) ?_
      intro p46 h
      refine lf_istore (L := fun y47 => [.ref 389, .int x1, .int y47, mj_U, mj_U]) h rfl rfl (fun _ => rfl) ?_
      intro y47 h
      refine lf_aload rfl ?_
      refine lf_iload rfl ?_
      refine lf_if_eq h (fun h => ?_) (fun h => ?_)
      · refine lf_blk B_Mod_cut_51 ?_
        refine lf_iconst lf_c2 ?_
        refine lf_goto ?_
        refine lf_blk B_Mod_cut_56 ?_
        refine lf_putf (ci := 10) (k := 0) h lf_a389 rfl (by decide) rfl rfl rfl ?_
        intro s48 h
        refine lf_aload rfl ?_
        refine lf_getf (ci := 10) (k := 0) lf_a389 rfl (by decide) rfl ?_
        refine lf_if_le h (fun h => ?_) (fun h => ?_)
        · refine lf_blk B_Mod_cut_68 ?_
          refine lf_iconst lf_c2 ?_
          refine lf_aload rfl ?_
          refine lf_iload rfl ?_
          refine lf_iconst lf_c2 ?_
          refine lf_callVRi (as := [.int x1, .int (2 : Int32)]) (rest := [.int (2 : Int32)]) h rfl rfl lf_a389 rfl (Nat.le_trans (by decide) hd) rfl rfl (fun p49 h9 => s_Mod_ofBed h9) ?_
          intro p49 h
          refine lf_imul ?_
          refine lf_istore (L := fun y50 => [.ref 389, .int x1, .int y47, .int y50, mj_U]) h rfl rfl (fun _ => rfl) ?_
          intro y50 h
          refine lf_aload rfl ?_
          refine lf_iconst lf_c8 ?_
          refine lf_aload rfl ?_
          refine lf_getr (ci := 10) (k := 1) lf_a389 rfl (by decide) rfl ?_
          refine lf_iconst lf_c8 ?_
          refine lf_iald h lf_a390 ?_
          intro k51 h
          refine lf_aload rfl ?_
          refine lf_getf (ci := 10) (k := 16) lf_a389 rfl (by decide) rfl ?_
          refine lf_isub ?_
          refine lf_callVWi (as := [.int (8 : Int32), .int ((s48.1 390 k51) - (s48.1 389 16))]) (rest := []) h rfl rfl lf_a389 rfl (Nat.le_trans (by decide) hd) rfl rfl (fun p52 h9 => s_Mod_sets h9) ?_
          intro p52 h
          refine lf_istore (L := fun y53 => [.ref 389, .int x1, .int y47, .int y50, .int y53]) h rfl rfl (fun _ => rfl) ?_
          intro y53 h
          refine lf_aload rfl ?_
          refine lf_getr (ci := 10) (k := 1) lf_a389 rfl (by decide) rfl ?_
          refine lf_iconst lf_c37 ?_
          refine lf_iload rfl ?_
          refine lf_iadd ?_
          refine lf_iconst lf_c1 ?_
          refine lf_isub ?_
          refine lf_iconst lf_c9999 ?_
          refine lf_aload rfl ?_
          refine lf_iload rfl ?_
          refine lf_callVRi (as := [.int y47]) (rest := [.int (9999 : Int32), .int (((37 : Int32) + y47) - (1 : Int32)), .ref 390]) h rfl rfl lf_a389 rfl (Nat.le_trans (by decide) hd) rfl rfl (fun p54 h9 => s_Mod_stored h9) ?_
          intro p54 h
          refine lf_iload rfl ?_
          refine lf_iadd ?_
          refine lf_callSRi (as := [.int (9999 : Int32), .int (p54 + y50)]) (rest := [.int (((37 : Int32) + y47) - (1 : Int32)), .ref 390]) h rfl rfl (Nat.le_trans (by decide) hd) rfl rfl (fun p55 h9 => s_Mod_lesser h9) ?_
          intro p55 h
          refine lf_iast h lf_a390 ?_
          intro s57 h
          refine lf_aload rfl ?_
          refine lf_getr (ci := 10) (k := 1) lf_a389 rfl (by decide) rfl ?_
          refine lf_iconst lf_c13 ?_
          refine lf_iconst lf_c4 ?_
          refine lf_iload rfl ?_
          refine lf_imul ?_
          refine lf_iadd ?_
          refine lf_iconst lf_c1 ?_
          refine lf_iadd ?_
          refine lf_iconst lf_c0 ?_
          refine lf_iast h lf_a390 ?_
          intro s59 h
          refine lf_aload rfl ?_
          refine lf_iload rfl ?_
          refine lf_iconst lf_c0 ?_
          refine lf_iload rfl ?_
          refine lf_callVWu (as := [.int x1, .int (0 : Int32), .int y50]) (rest := []) h rfl rfl lf_a389 rfl (Nat.le_trans (by decide) hd) rfl rfl (fun p60 h9 => s_Mod_logs h9) ?_
          intro p60 h
          refine lf_iload rfl ?_
          cases h
          exact lf_iret ⟨rfl, rfl, rfl⟩
        · refine lf_iconst lf_c0 ?_
          cases h
          exact lf_iret ⟨rfl, rfl, rfl⟩
      · refine lf_aload rfl ?_
        refine lf_getf (ci := 10) (k := 16) lf_a389 rfl (by decide) rfl ?_
        refine lf_aload rfl ?_
        refine lf_getr (ci := 10) (k := 1) lf_a389 rfl (by decide) rfl ?_
        refine lf_iconst lf_c8 ?_
        refine lf_iald h lf_a390 ?_
        intro k61 h
        refine lf_icmp_le h (fun h => ?_) (fun h => ?_)
        · refine lf_blk B_Mod_cut_55 ?_
          refine lf_iconst lf_c0 ?_
          refine lf_end ?_
          refine lf_blk B_Mod_cut_56 ?_
          refine lf_putf (ci := 10) (k := 0) h lf_a389 rfl (by decide) rfl rfl rfl ?_
          intro s62 h
          refine lf_aload rfl ?_
          refine lf_getf (ci := 10) (k := 0) lf_a389 rfl (by decide) rfl ?_
          refine lf_if_le h (fun h => ?_) (fun h => ?_)
          · refine lf_blk B_Mod_cut_68 ?_
            refine lf_iconst lf_c2 ?_
            refine lf_aload rfl ?_
            refine lf_iload rfl ?_
            refine lf_iconst lf_c2 ?_
            refine lf_callVRi (as := [.int x1, .int (2 : Int32)]) (rest := [.int (2 : Int32)]) h rfl rfl lf_a389 rfl (Nat.le_trans (by decide) hd) rfl rfl (fun p63 h9 => s_Mod_ofBed h9) ?_
            intro p63 h
            refine lf_imul ?_
            refine lf_istore (L := fun y64 => [.ref 389, .int x1, .int y47, .int y64, mj_U]) h rfl rfl (fun _ => rfl) ?_
            intro y64 h
            refine lf_aload rfl ?_
            refine lf_iconst lf_c8 ?_
            refine lf_aload rfl ?_
            refine lf_getr (ci := 10) (k := 1) lf_a389 rfl (by decide) rfl ?_
            refine lf_iconst lf_c8 ?_
            refine lf_iald h lf_a390 ?_
            intro k65 h
            refine lf_aload rfl ?_
            refine lf_getf (ci := 10) (k := 16) lf_a389 rfl (by decide) rfl ?_
            refine lf_isub ?_
            refine lf_callVWi (as := [.int (8 : Int32), .int ((s62.1 390 k65) - (s62.1 389 16))]) (rest := []) h rfl rfl lf_a389 rfl (Nat.le_trans (by decide) hd) rfl rfl (fun p66 h9 => s_Mod_sets h9) ?_
            intro p66 h
            refine lf_istore (L := fun y67 => [.ref 389, .int x1, .int y47, .int y64, .int y67]) h rfl rfl (fun _ => rfl) ?_
            intro y67 h
            refine lf_aload rfl ?_
            refine lf_getr (ci := 10) (k := 1) lf_a389 rfl (by decide) rfl ?_
            refine lf_iconst lf_c37 ?_
            refine lf_iload rfl ?_
            refine lf_iadd ?_
            refine lf_iconst lf_c1 ?_
            refine lf_isub ?_
            refine lf_iconst lf_c9999 ?_
            refine lf_aload rfl ?_
            refine lf_iload rfl ?_
            refine lf_callVRi (as := [.int y47]) (rest := [.int (9999 : Int32), .int (((37 : Int32) + y47) - (1 : Int32)), .ref 390]) h rfl rfl lf_a389 rfl (Nat.le_trans (by decide) hd) rfl rfl (fun p68 h9 => s_Mod_stored h9) ?_
            intro p68 h
            refine lf_iload rfl ?_
            refine lf_iadd ?_
            refine lf_callSRi (as := [.int (9999 : Int32), .int (p68 + y64)]) (rest := [.int (((37 : Int32) + y47) - (1 : Int32)), .ref 390]) h rfl rfl (Nat.le_trans (by decide) hd) rfl rfl (fun p69 h9 => s_Mod_lesser h9) ?_
            intro p69 h
            refine lf_iast h lf_a390 ?_
            intro s71 h
            refine lf_aload rfl ?_
            refine lf_getr (ci := 10) (k := 1) lf_a389 rfl (by decide) rfl ?_
            refine lf_iconst lf_c13 ?_
            refine lf_iconst lf_c4 ?_
            refine lf_iload rfl ?_
            refine lf_imul ?_
            refine lf_iadd ?_
            refine lf_iconst lf_c1 ?_
            refine lf_iadd ?_
            refine lf_iconst lf_c0 ?_
            refine lf_iast h lf_a390 ?_
            intro s73 h
            refine lf_aload rfl ?_
            refine lf_iload rfl ?_
            refine lf_iconst lf_c0 ?_
            refine lf_iload rfl ?_
            refine lf_callVWu (as := [.int x1, .int (0 : Int32), .int y64]) (rest := []) h rfl rfl lf_a389 rfl (Nat.le_trans (by decide) hd) rfl rfl (fun p74 h9 => s_Mod_logs h9) ?_
            intro p74 h
            refine lf_iload rfl ?_
            cases h
            exact lf_iret ⟨rfl, rfl, rfl⟩
          · refine lf_iconst lf_c0 ?_
            cases h
            exact lf_iret ⟨rfl, rfl, rfl⟩
        · refine lf_end ?_
          refine lf_blk B_Mod_cut_51 ?_
          refine lf_iconst lf_c2 ?_
          refine lf_goto ?_
          refine lf_blk B_Mod_cut_56 ?_
          refine lf_putf (ci := 10) (k := 0) h lf_a389 rfl (by decide) rfl rfl rfl ?_
          intro s75 h
          refine lf_aload rfl ?_
          refine lf_getf (ci := 10) (k := 0) lf_a389 rfl (by decide) rfl ?_
          refine lf_if_le h (fun h => ?_) (fun h => ?_)
          · refine lf_blk B_Mod_cut_68 ?_
            refine lf_iconst lf_c2 ?_
            refine lf_aload rfl ?_
            refine lf_iload rfl ?_
            refine lf_iconst lf_c2 ?_
            refine lf_callVRi (as := [.int x1, .int (2 : Int32)]) (rest := [.int (2 : Int32)]) h rfl rfl lf_a389 rfl (Nat.le_trans (by decide) hd) rfl rfl (fun p76 h9 => s_Mod_ofBed h9) ?_
            intro p76 h
            refine lf_imul ?_
            refine lf_istore (L := fun y77 => [.ref 389, .int x1, .int y47, .int y77, mj_U]) h rfl rfl (fun _ => rfl) ?_
            intro y77 h
            refine lf_aload rfl ?_
            refine lf_iconst lf_c8 ?_
            refine lf_aload rfl ?_
            refine lf_getr (ci := 10) (k := 1) lf_a389 rfl (by decide) rfl ?_
            refine lf_iconst lf_c8 ?_
            refine lf_iald h lf_a390 ?_
            intro k78 h
            refine lf_aload rfl ?_
            refine lf_getf (ci := 10) (k := 16) lf_a389 rfl (by decide) rfl ?_
            refine lf_isub ?_
            refine lf_callVWi (as := [.int (8 : Int32), .int ((s75.1 390 k78) - (s75.1 389 16))]) (rest := []) h rfl rfl lf_a389 rfl (Nat.le_trans (by decide) hd) rfl rfl (fun p79 h9 => s_Mod_sets h9) ?_
            intro p79 h
            refine lf_istore (L := fun y80 => [.ref 389, .int x1, .int y47, .int y77, .int y80]) h rfl rfl (fun _ => rfl) ?_
            intro y80 h
            refine lf_aload rfl ?_
            refine lf_getr (ci := 10) (k := 1) lf_a389 rfl (by decide) rfl ?_
            refine lf_iconst lf_c37 ?_
            refine lf_iload rfl ?_
            refine lf_iadd ?_
            refine lf_iconst lf_c1 ?_
            refine lf_isub ?_
            refine lf_iconst lf_c9999 ?_
            refine lf_aload rfl ?_
            refine lf_iload rfl ?_
            refine lf_callVRi (as := [.int y47]) (rest := [.int (9999 : Int32), .int (((37 : Int32) + y47) - (1 : Int32)), .ref 390]) h rfl rfl lf_a389 rfl (Nat.le_trans (by decide) hd) rfl rfl (fun p81 h9 => s_Mod_stored h9) ?_
            intro p81 h
            refine lf_iload rfl ?_
            refine lf_iadd ?_
            refine lf_callSRi (as := [.int (9999 : Int32), .int (p81 + y77)]) (rest := [.int (((37 : Int32) + y47) - (1 : Int32)), .ref 390]) h rfl rfl (Nat.le_trans (by decide) hd) rfl rfl (fun p82 h9 => s_Mod_lesser h9) ?_
            intro p82 h
            refine lf_iast h lf_a390 ?_
            intro s84 h
            refine lf_aload rfl ?_
            refine lf_getr (ci := 10) (k := 1) lf_a389 rfl (by decide) rfl ?_
            refine lf_iconst lf_c13 ?_
            refine lf_iconst lf_c4 ?_
            refine lf_iload rfl ?_
            refine lf_imul ?_
            refine lf_iadd ?_
            refine lf_iconst lf_c1 ?_
            refine lf_iadd ?_
            refine lf_iconst lf_c0 ?_
            refine lf_iast h lf_a390 ?_
            intro s86 h
            refine lf_aload rfl ?_
            refine lf_iload rfl ?_
            refine lf_iconst lf_c0 ?_
            refine lf_iload rfl ?_
            refine lf_callVWu (as := [.int x1, .int (0 : Int32), .int y77]) (rest := []) h rfl rfl lf_a389 rfl (Nat.le_trans (by decide) hd) rfl rfl (fun p87 h9 => s_Mod_logs h9) ?_
            intro p87 h
            refine lf_iload rfl ?_
            cases h
            exact lf_iret ⟨rfl, rfl, rfl⟩
          · refine lf_iconst lf_c0 ?_
            cases h
            exact lf_iret ⟨rfl, rfl, rfl⟩
    · refine lf_iconst lf_c0 ?_
      cases h
      exact lf_iret ⟨rfl, rfl, rfl⟩
theorem s_Mod_packs_10 {sc : Nat × (Nat → Int32)} {d : Nat} {Q : mj_Q} {cl : Bool} {rc rs : Nat} {E : Nat} {q_Mod_packs : Int32 → Int32 → Int32 → Int32 → Int32 → lf_S → Option (Bool × lf_S)} {c1 : Int32} {c2 : Int32} {c3 : Int32} {c4 : Int32} {c5 : Int32} {p : (lf_S) ⊕ (Bool × lf_S)} (hE : 0 ≤ E) (hq_Mod_packs : ∀ (x1 : Int32) (x2 : Int32) (x3 : Int32) (x4 : Int32) (x5 : Int32) (s : lf_S) (p : Bool × lf_S), q_Mod_packs x1 x2 x3 x4 x5 s = some p → lf_ok sc E j_Mod_packs [.ref 389, .int x1, .int x2, .int x3, .int x4, .int x5] s (some (.int (lf_i p.1))) p.2) (hd : E ≤ d) (hk : Sum.elim (fun q0a => lf_wp sc d j_Mod_packs Q 126 [mj_U, mj_U, mj_U, mj_U, mj_U, mj_U, mj_U, mj_U] [] (lf_hp q0a) cl rc rs) (fun q0b => Q (.inl (some (.int (lf_i q0b.1)))) (lf_hp q0b.2) cl) p) : ∀ (n : Nat) (v6 : Int32) (s : lf_S), f_Mod_packs_10 q_Mod_packs c1 c2 c3 c4 c5 n v6 s = some p → lf_wp sc d j_Mod_packs Q 10 [.ref 389, .int c1, .int c2, .int c3, .int c4, .int c5, .int v6, mj_U] [] (lf_hp s) cl rc rs := by
  intro n
  induction n with
  | zero =>
    intro v6 s h
    exact absurd h (fun z => by cases z)
  | succ n ih =>
    intro v6 s h
    unfold f_Mod_packs_10 at h
    refine lf_blk B_Mod_packs_10 ?_
    refine lf_iload rfl ?_
    refine lf_iload rfl ?_
    refine lf_icmp_gt h (fun h => ?_) (fun h => ?_)
    · rw [← Option.some.inj h] at hk
      exact mj_w_weak (ls := [mj_U, mj_U, mj_U, mj_U, mj_U, mj_U, mj_U, mj_U]) (lf_rr (lf_ri (lf_ri (lf_ri (lf_ri (lf_ri (lf_ri (lf_rl (lf_r0))))))))) hk
    · refine lf_iload rfl ?_
      refine lf_iload rfl ?_
      refine lf_icmp_ge h (fun h => ?_) (fun h => ?_)
      · rw [← Option.some.inj h] at hk
        exact mj_w_weak (ls := [mj_U, mj_U, mj_U, mj_U, mj_U, mj_U, mj_U, mj_U]) (lf_rr (lf_ri (lf_ri (lf_ri (lf_ri (lf_ri (lf_ri (lf_rl (lf_r0))))))))) hk
      · refine lf_iload rfl ?_
        refine lf_iload rfl ?_
        refine lf_icmp_ne h (fun h => ?_) (fun h => ?_)
        · refine lf_blk B_Mod_packs_34 ?_
          refine lf_aload rfl ?_
          refine lf_getr (ci := 10) (k := 22) lf_a389 rfl (by decide) rfl ?_
          refine lf_iload rfl ?_
          refine lf_iald h lf_a401 ?_
          intro k2 h
          refine lf_end ?_
          refine lf_blk B_Mod_packs_41 ?_
          refine lf_istore (L := fun y3 => [.ref 389, .int c1, .int c2, .int c3, .int c4, .int c5, .int v6, .int y3]) h rfl rfl (fun _ => rfl) ?_
          intro y3 h
          refine lf_iload rfl ?_
          refine lf_aload rfl ?_
          refine lf_getr (ci := 10) (k := 7) lf_a389 rfl (by decide) rfl ?_
          refine lf_iload rfl ?_
          refine lf_iald h lf_a394 ?_
          intro k4 h
          refine lf_icmp_ge h (fun h => ?_) (fun h => ?_)
          · refine lf_blk B_Mod_packs_57 ?_
            refine lf_aload rfl ?_
            refine lf_getr (ci := 10) (k := 22) lf_a389 rfl (by decide) rfl ?_
            refine lf_iload rfl ?_
            refine lf_iload rfl ?_
            refine lf_aload rfl ?_
            refine lf_getr (ci := 10) (k := 7) lf_a389 rfl (by decide) rfl ?_
            refine lf_iload rfl ?_
            refine lf_iald h lf_a394 ?_
            intro k5 h
            refine lf_isub ?_
            refine lf_iast h lf_a401 ?_
            intro s7 h
            refine lf_aload rfl ?_
            refine lf_getr (ci := 10) (k := 23) lf_a389 rfl (by decide) rfl ?_
            refine lf_iload rfl ?_
            refine lf_iload rfl ?_
            refine lf_iast h lf_a402 ?_
            intro s9 h
            refine lf_aload rfl ?_
            refine lf_iload rfl ?_
            refine lf_iconst lf_c1 ?_
            refine lf_iadd ?_
            refine lf_iload rfl ?_
            refine lf_iload rfl ?_
            refine lf_iload rfl ?_
            refine lf_icmp_ne h (fun h => ?_) (fun h => ?_)
            · refine lf_blk B_Mod_packs_98 ?_
              refine lf_iload rfl ?_
              refine lf_end ?_
              refine lf_blk B_Mod_packs_99 ?_
              refine lf_iload rfl ?_
              refine lf_iload rfl ?_
              refine lf_callVWb (as := [.int (c1 + (1 : Int32)), .int c2, .int c3, .int c4, .int c5]) (rest := []) h rfl rfl lf_a389 rfl hd rfl rfl (fun p10 h9 => hq_Mod_packs _ _ _ _ _ _ _ h9) ?_
              intro p10 h
              refine lf_ifb_eq h (fun h => ?_) (fun h => ?_)
              · refine lf_blk B_Mod_packs_111 ?_
                refine lf_aload rfl ?_
                refine lf_getr (ci := 10) (k := 22) lf_a389 rfl (by decide) rfl ?_
                refine lf_iload rfl ?_
                refine lf_iload rfl ?_
                refine lf_iast h lf_a401 ?_
                intro s12 h
                refine lf_end ?_
                refine lf_blk B_Mod_packs_120 ?_
                refine lf_iinc (L := fun y13 => [.ref 389, .int c1, .int c2, .int c3, .int c4, .int c5, .int y13, .int y3]) h lf_c1 rfl rfl (fun _ => rfl) ?_
                intro y13 h
                refine lf_goto ?_
                exact mj_w_weak (ls := [.ref 389, .int c1, .int c2, .int c3, .int c4, .int c5, .int y13, mj_U]) (lf_rl (lf_rl (lf_rl (lf_rl (lf_rl (lf_rl (lf_rl (lf_ri (lf_r0))))))))) (ih y13 s12 h)
              · refine lf_iconst lf_c1 ?_
                rw [← Option.some.inj h] at hk
                exact lf_iret hk
            · refine lf_iload rfl ?_
              refine lf_iconst lf_c1 ?_
              refine lf_iadd ?_
              refine lf_goto ?_
              refine lf_blk B_Mod_packs_99 ?_
              refine lf_iload rfl ?_
              refine lf_iload rfl ?_
              refine lf_callVWb (as := [.int (c1 + (1 : Int32)), .int c2, .int (c3 + (1 : Int32)), .int c4, .int c5]) (rest := []) h rfl rfl lf_a389 rfl hd rfl rfl (fun p14 h9 => hq_Mod_packs _ _ _ _ _ _ _ h9) ?_
              intro p14 h
              refine lf_ifb_eq h (fun h => ?_) (fun h => ?_)
              · refine lf_blk B_Mod_packs_111 ?_
                refine lf_aload rfl ?_
                refine lf_getr (ci := 10) (k := 22) lf_a389 rfl (by decide) rfl ?_
                refine lf_iload rfl ?_
                refine lf_iload rfl ?_
                refine lf_iast h lf_a401 ?_
                intro s16 h
                refine lf_end ?_
                refine lf_blk B_Mod_packs_120 ?_
                refine lf_iinc (L := fun y17 => [.ref 389, .int c1, .int c2, .int c3, .int c4, .int c5, .int y17, .int y3]) h lf_c1 rfl rfl (fun _ => rfl) ?_
                intro y17 h
                refine lf_goto ?_
                exact mj_w_weak (ls := [.ref 389, .int c1, .int c2, .int c3, .int c4, .int c5, .int y17, mj_U]) (lf_rl (lf_rl (lf_rl (lf_rl (lf_rl (lf_rl (lf_rl (lf_ri (lf_r0))))))))) (ih y17 s16 h)
              · refine lf_iconst lf_c1 ?_
                rw [← Option.some.inj h] at hk
                exact lf_iret hk
          · refine lf_goto ?_
            refine lf_blk B_Mod_packs_120 ?_
            refine lf_iinc (L := fun y18 => [.ref 389, .int c1, .int c2, .int c3, .int c4, .int c5, .int y18, .int y3]) h lf_c1 rfl rfl (fun _ => rfl) ?_
            intro y18 h
            refine lf_goto ?_
            exact mj_w_weak (ls := [.ref 389, .int c1, .int c2, .int c3, .int c4, .int c5, .int y18, mj_U]) (lf_rl (lf_rl (lf_rl (lf_rl (lf_rl (lf_rl (lf_rl (lf_ri (lf_r0))))))))) (ih y18 s h)
        · refine lf_iload rfl ?_
          refine lf_goto ?_
          refine lf_blk B_Mod_packs_41 ?_
          refine lf_istore (L := fun y19 => [.ref 389, .int c1, .int c2, .int c3, .int c4, .int c5, .int v6, .int y19]) h rfl rfl (fun _ => rfl) ?_
          intro y19 h
          refine lf_iload rfl ?_
          refine lf_aload rfl ?_
          refine lf_getr (ci := 10) (k := 7) lf_a389 rfl (by decide) rfl ?_
          refine lf_iload rfl ?_
          refine lf_iald h lf_a394 ?_
          intro k20 h
          refine lf_icmp_ge h (fun h => ?_) (fun h => ?_)
          · refine lf_blk B_Mod_packs_57 ?_
            refine lf_aload rfl ?_
            refine lf_getr (ci := 10) (k := 22) lf_a389 rfl (by decide) rfl ?_
            refine lf_iload rfl ?_
            refine lf_iload rfl ?_
            refine lf_aload rfl ?_
            refine lf_getr (ci := 10) (k := 7) lf_a389 rfl (by decide) rfl ?_
            refine lf_iload rfl ?_
            refine lf_iald h lf_a394 ?_
            intro k21 h
            refine lf_isub ?_
            refine lf_iast h lf_a401 ?_
            intro s23 h
            refine lf_aload rfl ?_
            refine lf_getr (ci := 10) (k := 23) lf_a389 rfl (by decide) rfl ?_
            refine lf_iload rfl ?_
            refine lf_iload rfl ?_
            refine lf_iast h lf_a402 ?_
            intro s25 h
            refine lf_aload rfl ?_
            refine lf_iload rfl ?_
            refine lf_iconst lf_c1 ?_
            refine lf_iadd ?_
            refine lf_iload rfl ?_
            refine lf_iload rfl ?_
            refine lf_iload rfl ?_
            refine lf_icmp_ne h (fun h => ?_) (fun h => ?_)
            · refine lf_blk B_Mod_packs_98 ?_
              refine lf_iload rfl ?_
              refine lf_end ?_
              refine lf_blk B_Mod_packs_99 ?_
              refine lf_iload rfl ?_
              refine lf_iload rfl ?_
              refine lf_callVWb (as := [.int (c1 + (1 : Int32)), .int c2, .int c3, .int c4, .int c5]) (rest := []) h rfl rfl lf_a389 rfl hd rfl rfl (fun p26 h9 => hq_Mod_packs _ _ _ _ _ _ _ h9) ?_
              intro p26 h
              refine lf_ifb_eq h (fun h => ?_) (fun h => ?_)
              · refine lf_blk B_Mod_packs_111 ?_
                refine lf_aload rfl ?_
                refine lf_getr (ci := 10) (k := 22) lf_a389 rfl (by decide) rfl ?_
                refine lf_iload rfl ?_
                refine lf_iload rfl ?_
                refine lf_iast h lf_a401 ?_
                intro s28 h
                refine lf_end ?_
                refine lf_blk B_Mod_packs_120 ?_
                refine lf_iinc (L := fun y29 => [.ref 389, .int c1, .int c2, .int c3, .int c4, .int c5, .int y29, .int y19]) h lf_c1 rfl rfl (fun _ => rfl) ?_
                intro y29 h
                refine lf_goto ?_
                exact mj_w_weak (ls := [.ref 389, .int c1, .int c2, .int c3, .int c4, .int c5, .int y29, mj_U]) (lf_rl (lf_rl (lf_rl (lf_rl (lf_rl (lf_rl (lf_rl (lf_ri (lf_r0))))))))) (ih y29 s28 h)
              · refine lf_iconst lf_c1 ?_
                rw [← Option.some.inj h] at hk
                exact lf_iret hk
            · refine lf_iload rfl ?_
              refine lf_iconst lf_c1 ?_
              refine lf_iadd ?_
              refine lf_goto ?_
              refine lf_blk B_Mod_packs_99 ?_
              refine lf_iload rfl ?_
              refine lf_iload rfl ?_
              refine lf_callVWb (as := [.int (c1 + (1 : Int32)), .int c2, .int (c3 + (1 : Int32)), .int c4, .int c5]) (rest := []) h rfl rfl lf_a389 rfl hd rfl rfl (fun p30 h9 => hq_Mod_packs _ _ _ _ _ _ _ h9) ?_
              intro p30 h
              refine lf_ifb_eq h (fun h => ?_) (fun h => ?_)
              · refine lf_blk B_Mod_packs_111 ?_
                refine lf_aload rfl ?_
                refine lf_getr (ci := 10) (k := 22) lf_a389 rfl (by decide) rfl ?_
                refine lf_iload rfl ?_
                refine lf_iload rfl ?_
                refine lf_iast h lf_a401 ?_
                intro s32 h
                refine lf_end ?_
                refine lf_blk B_Mod_packs_120 ?_
                refine lf_iinc (L := fun y33 => [.ref 389, .int c1, .int c2, .int c3, .int c4, .int c5, .int y33, .int y19]) h lf_c1 rfl rfl (fun _ => rfl) ?_
                intro y33 h
                refine lf_goto ?_
                exact mj_w_weak (ls := [.ref 389, .int c1, .int c2, .int c3, .int c4, .int c5, .int y33, mj_U]) (lf_rl (lf_rl (lf_rl (lf_rl (lf_rl (lf_rl (lf_rl (lf_ri (lf_r0))))))))) (ih y33 s32 h)
              · refine lf_iconst lf_c1 ?_
                rw [← Option.some.inj h] at hk
                exact lf_iret hk
          · refine lf_goto ?_
            refine lf_blk B_Mod_packs_120 ?_
            refine lf_iinc (L := fun y34 => [.ref 389, .int c1, .int c2, .int c3, .int c4, .int c5, .int y34, .int y19]) h lf_c1 rfl rfl (fun _ => rfl) ?_
            intro y34 h
            refine lf_goto ?_
            exact mj_w_weak (ls := [.ref 389, .int c1, .int c2, .int c3, .int c4, .int c5, .int y34, mj_U]) (lf_rl (lf_rl (lf_rl (lf_rl (lf_rl (lf_rl (lf_rl (lf_ri (lf_r0))))))))) (ih y34 s h)
theorem sb_Mod_packs {sc : Nat × (Nat → Int32)} {E : Nat} {q_Mod_packs : Int32 → Int32 → Int32 → Int32 → Int32 → lf_S → Option (Bool × lf_S)} (hE : 0 ≤ E) (hq_Mod_packs : ∀ (x1 : Int32) (x2 : Int32) (x3 : Int32) (x4 : Int32) (x5 : Int32) (s : lf_S) (p : Bool × lf_S), q_Mod_packs x1 x2 x3 x4 x5 s = some p → lf_ok sc E j_Mod_packs [.ref 389, .int x1, .int x2, .int x3, .int x4, .int x5] s (some (.int (lf_i p.1))) p.2) {x1 : Int32} {x2 : Int32} {x3 : Int32} {x4 : Int32} {x5 : Int32} {s : lf_S} {p : Bool × lf_S} (h : fb_Mod_packs q_Mod_packs x1 x2 x3 x4 x5 s = some p) : lf_ok sc (E + 1) j_Mod_packs [.ref 389, .int x1, .int x2, .int x3, .int x4, .int x5] s (some (.int (lf_i p.1))) p.2 := by
  refine lf_in (D := E) (ls := [.ref 389, .int x1, .int x2, .int x3, .int x4, .int x5, mj_U, mj_U]) rfl lf_zb rfl ?_
  intro d hd cl rc rs
  unfold fb_Mod_packs at h
  refine lf_blk B_Mod_packs_0 ?_
  refine lf_iload rfl ?_
  refine lf_iload rfl ?_
  refine lf_icmp_ne h (fun h => ?_) (fun h => ?_)
  · refine lf_blk B_Mod_packs_7 ?_
    refine lf_iconst lf_c0 ?_
    refine lf_istore (L := fun y1 => [.ref 389, .int x1, .int x2, .int x3, .int x4, .int x5, .int y1, mj_U]) h rfl rfl (fun _ => rfl) ?_
    intro y1 h
    refine lf_end ?_
    refine lf_loop h (fun p35 hp35 h => ?_)
    refine mj_w_weak (ls := [.ref 389, .int x1, .int x2, .int x3, .int x4, .int x5, .int y1, mj_U]) (lf_rl (lf_rl (lf_rl (lf_rl (lf_rl (lf_rl (lf_rl (lf_rl (lf_r0))))))))) ?_
    refine s_Mod_packs_10 hE hq_Mod_packs hd ?_ 5000 y1 s hp35
    cases p35 with
    | inl q36 =>
      dsimp only [Sum.elim_inl, Sum.elim_inr] at h ⊢
      refine lf_blk B_Mod_packs_126 ?_
      refine lf_iconst lf_c0 ?_
      cases h
      exact lf_iret ⟨rfl, rfl, rfl⟩
    | inr q37 =>
      dsimp only [Sum.elim_inl, Sum.elim_inr] at h ⊢
      cases h
      exact ⟨rfl, rfl, rfl⟩
  · refine lf_iconst lf_c1 ?_
    cases h
    exact lf_iret ⟨rfl, rfl, rfl⟩
theorem F_Mod_packs_ok {sc : Nat × (Nat → Int32)} : ∀ (n : Nat), (∀ (x1 : Int32) (x2 : Int32) (x3 : Int32) (x4 : Int32) (x5 : Int32) (s : lf_S) (p : Bool × lf_S), (F_Mod_packs n) x1 x2 x3 x4 x5 s = some p → lf_ok sc (0 + n) j_Mod_packs [.ref 389, .int x1, .int x2, .int x3, .int x4, .int x5] s (some (.int (lf_i p.1))) p.2) := by
  intro n
  induction n with
  | zero => exact fun _ _ _ _ _ s p h => absurd h (fun q => by cases q)
  | succ n ih => exact fun x1 x2 x3 x4 x5 s p h => sb_Mod_packs (Nat.le_add_right _ _) ih h
theorem s_Mod_packs {sc : Nat × (Nat → Int32)} {x1 : Int32} {x2 : Int32} {x3 : Int32} {x4 : Int32} {x5 : Int32} {s : lf_S} {p : Bool × lf_S} (h : f_Mod_packs x1 x2 x3 x4 x5 s = some p) : lf_ok sc 64 j_Mod_packs [.ref 389, .int x1, .int x2, .int x3, .int x4, .int x5] s (some (.int (lf_i p.1))) p.2 := (F_Mod_packs_ok 64) x1 x2 x3 x4 x5 s p h
theorem s_Mod_rodsFor_2 {sc : Nat × (Nat → Int32)} {d : Nat} {Q : mj_Q} {cl : Bool} {rc rs : Nat} {c1 : Int32} {c2 : Int32} {p : (lf_S) ⊕ (Int32 × lf_S)} (hd : 0 ≤ d) (hk : Sum.elim (fun q0a => lf_wp sc d j_Mod_rodsFor Q 28 [.ref 389, .int c1, .int c2, mj_U] [] (lf_hp q0a) cl rc rs) (fun q0b => Q (.inl (some (.int q0b.1))) (lf_hp q0b.2) cl) p) : ∀ (n : Nat) (v3 : Int32) (s : lf_S), f_Mod_rodsFor_2 c1 c2 n v3 s = some p → lf_wp sc d j_Mod_rodsFor Q 2 [.ref 389, .int c1, .int c2, .int v3] [] (lf_hp s) cl rc rs := by
  intro n
  induction n with
  | zero =>
    intro v3 s h
    exact absurd h (fun z => by cases z)
  | succ n ih =>
    intro v3 s h
    unfold f_Mod_rodsFor_2 at h
    refine lf_blk B_Mod_rodsFor_2 ?_
    refine lf_iload rfl ?_
    refine lf_iload rfl ?_
    refine lf_icmp_ge h (fun h => ?_) (fun h => ?_)
    · rw [← Option.some.inj h] at hk
      exact mj_w_weak (ls := [.ref 389, .int c1, .int c2, mj_U]) (lf_rl (lf_rl (lf_rl (lf_ri (lf_r0))))) hk
    · refine lf_aload rfl ?_
      refine lf_getr (ci := 10) (k := 7) lf_a389 rfl (by decide) rfl ?_
      refine lf_iload rfl ?_
      refine lf_iald h lf_a394 ?_
      intro k2 h
      refine lf_iconst lf_c12 ?_
      refine lf_iload rfl ?_
      refine lf_imul ?_
      refine lf_icmp_le h (fun h => ?_) (fun h => ?_)
      · refine lf_blk B_Mod_rodsFor_22 ?_
        refine lf_iinc (L := fun y3 => [.ref 389, .int c1, .int c2, .int y3]) h lf_c1 rfl rfl (fun _ => rfl) ?_
        intro y3 h
        refine lf_goto ?_
        exact mj_w_weak (ls := [.ref 389, .int c1, .int c2, .int y3]) (lf_rl (lf_rl (lf_rl (lf_rl (lf_r0))))) (ih y3 s h)
      · refine lf_iconst lf_cm1 ?_
        rw [← Option.some.inj h] at hk
        exact lf_iret hk
theorem s_Mod_rodsFor_30 {sc : Nat × (Nat → Int32)} {d : Nat} {Q : mj_Q} {cl : Bool} {rc rs : Nat} {c1 : Int32} {c2 : Int32} {p : Int32 × lf_S} (hd : 64 ≤ d) (hk : lf_wp sc d j_Mod_rodsFor Q 51 [mj_U, mj_U, mj_U, .int p.1] [] (lf_hp p.2) cl rc rs) : ∀ (n : Nat) (v3 : Int32) (s : lf_S), f_Mod_rodsFor_30 c1 c2 n v3 s = some p → lf_wp sc d j_Mod_rodsFor Q 30 [.ref 389, .int c1, .int c2, .int v3] [] (lf_hp s) cl rc rs := by
  intro n
  induction n with
  | zero =>
    intro v3 s h
    exact absurd h (fun z => by cases z)
  | succ n ih =>
    intro v3 s h
    unfold f_Mod_rodsFor_30 at h
    refine lf_blk B_Mod_rodsFor_30 ?_
    refine lf_aload rfl ?_
    refine lf_iconst lf_c0 ?_
    refine lf_iload rfl ?_
    refine lf_iconst lf_c0 ?_
    refine lf_iload rfl ?_
    refine lf_iconst lf_c12 ?_
    refine lf_iload rfl ?_
    refine lf_imul ?_
    refine lf_callVWb (as := [.int (0 : Int32), .int c1, .int (0 : Int32), .int v3, .int ((12 : Int32) * c2)]) (rest := []) h rfl rfl lf_a389 rfl (Nat.le_trans (by decide) hd) rfl rfl (fun p8 h9 => s_Mod_packs h9) ?_
    intro p8 h
    refine lf_ifb_ne h (fun h => ?_) (fun h => ?_)
    · rw [← Option.some.inj h] at hk
      exact mj_w_weak (ls := [mj_U, mj_U, mj_U, .int v3]) (lf_rr (lf_ri (lf_ri (lf_rl (lf_r0))))) hk
    · refine lf_iinc (L := fun y9 => [.ref 389, .int c1, .int c2, .int y9]) h lf_c1 rfl rfl (fun _ => rfl) ?_
      intro y9 h
      refine lf_goto ?_
      exact mj_w_weak (ls := [.ref 389, .int c1, .int c2, .int y9]) (lf_rl (lf_rl (lf_rl (lf_rl (lf_r0))))) (ih y9 p8.2 h)
theorem s_Mod_rodsFor {sc : Nat × (Nat → Int32)} {x1 : Int32} {x2 : Int32} {s : lf_S} {p : Int32 × lf_S} (h : f_Mod_rodsFor x1 x2 s = some p) : lf_ok sc 65 j_Mod_rodsFor [.ref 389, .int x1, .int x2] s (some (.int p.1)) p.2 := by
  refine lf_in (D := 64) (ls := [.ref 389, .int x1, .int x2, mj_U]) rfl (lf_zi (by decide +kernel)) rfl ?_
  intro d hd cl rc rs
  unfold f_Mod_rodsFor at h
  refine lf_blk B_Mod_rodsFor_0 ?_
  refine lf_iconst lf_c0 ?_
  refine lf_istore (L := fun y1 => [.ref 389, .int x1, .int x2, .int y1]) h rfl rfl (fun _ => rfl) ?_
  intro y1 h
  refine lf_end ?_
  refine lf_loop h (fun p4 hp4 h => ?_)
  refine mj_w_weak (ls := [.ref 389, .int x1, .int x2, .int y1]) (lf_rl (lf_rl (lf_rl (lf_rl (lf_r0))))) ?_
  refine s_Mod_rodsFor_2 (Nat.le_trans (by decide) hd) ?_ 5000 y1 s hp4
  cases p4 with
  | inl q5 =>
    dsimp only [Sum.elim_inl, Sum.elim_inr] at h ⊢
    refine lf_blk B_Mod_rodsFor_28 ?_
    refine lf_iconst lf_c0 ?_
    refine lf_istore (L := fun y7 => [.ref 389, .int x1, .int x2, .int y7]) h rfl rfl (fun _ => rfl) ?_
    intro y7 h
    refine lf_end ?_
    refine lf_loop h (fun p10 hp10 h => ?_)
    refine mj_w_weak (ls := [.ref 389, .int x1, .int x2, .int y7]) (lf_rl (lf_rl (lf_rl (lf_rl (lf_r0))))) ?_
    refine s_Mod_rodsFor_30 (Nat.le_trans (by decide) hd) ?_ 5000 y7 q5 hp10
    refine lf_blk B_Mod_rodsFor_51 ?_
    refine lf_iload rfl ?_
    cases h
    exact lf_iret ⟨rfl, rfl, rfl⟩
  | inr q6 =>
    dsimp only [Sum.elim_inl, Sum.elim_inr] at h ⊢
    cases h
    exact ⟨rfl, rfl, rfl⟩
theorem s_Mod_pieces {sc : Nat × (Nat → Int32)} {x1 : Int32} {s : lf_S} {p : Int32 × lf_S} (h : f_Mod_pieces x1 s = some p) : lf_ok sc 66 j_Mod_pieces [.ref 389, .int x1] s (some (.int p.1)) p.2 := by
  refine lf_in (D := 65) (ls := [.ref 389, .int x1, mj_U]) rfl (lf_zi (by decide +kernel)) rfl ?_
  intro d hd cl rc rs
  unfold f_Mod_pieces at h
  refine lf_blk B_Mod_pieces_0 ?_
  refine lf_aload rfl ?_
  refine lf_iload rfl ?_
  refine lf_callVWi (as := [.int x1]) (rest := []) h rfl rfl lf_a389 rfl (Nat.le_trans (by decide) hd) rfl rfl (fun p1 h9 => s_Mod_pieceMany h9) ?_
  intro p1 h
  refine lf_istore (L := fun y2 => [.ref 389, .int x1, .int y2]) h rfl rfl (fun _ => rfl) ?_
  intro y2 h
  refine lf_aload rfl ?_
  refine lf_getf (ci := 10) (k := 0) lf_a389 rfl (by decide) rfl ?_
  refine lf_if_le h (fun h => ?_) (fun h => ?_)
  · refine lf_blk B_Mod_pieces_17 ?_
    refine lf_aload rfl ?_
    refine lf_iload rfl ?_
    refine lf_iload rfl ?_
    refine lf_callVWi (as := [.int y2, .int x1]) (rest := []) h rfl rfl lf_a389 rfl (Nat.le_trans (by decide) hd) rfl rfl (fun p3 h9 => s_Mod_rodsFor h9) ?_
    intro p3 h
    refine lf_end ?_
    refine lf_blk B_Mod_pieces_23 ?_
    cases h
    exact lf_iret ⟨rfl, rfl, rfl⟩
  · refine lf_iconst lf_c0 ?_
    refine lf_goto ?_
    refine lf_blk B_Mod_pieces_23 ?_
    cases h
    exact lf_iret ⟨rfl, rfl, rfl⟩
theorem s_Mod_rod {sc : Nat × (Nat → Int32)} {x1 : Int32} {x2 : Int32} {s : lf_S} {p : Int32 × lf_S} (h : f_Mod_rod x1 x2 s = some p) : lf_ok sc 66 j_Mod_rod [.ref 389, .int x1, .int x2] s (some (.int p.1)) p.2 := by
  refine lf_in (D := 65) (ls := [.ref 389, .int x1, .int x2, mj_U]) rfl (lf_zi (by decide +kernel)) rfl ?_
  intro d hd cl rc rs
  unfold f_Mod_rod at h
  refine lf_blk B_Mod_rod_0 ?_
  refine lf_aload rfl ?_
  refine lf_iload rfl ?_
  refine lf_callVWi (as := [.int x1]) (rest := []) h rfl rfl lf_a389 rfl (Nat.le_trans (by decide) hd) rfl rfl (fun p1 h9 => s_Mod_pieceMany h9) ?_
  intro p1 h
  refine lf_istore (L := fun y2 => [.ref 389, .int x1, .int x2, .int y2]) h rfl rfl (fun _ => rfl) ?_
  intro y2 h
  refine lf_aload rfl ?_
  refine lf_getf (ci := 10) (k := 0) lf_a389 rfl (by decide) rfl ?_
  refine lf_if_le h (fun h => ?_) (fun h => ?_)
  · refine lf_blk B_Mod_rod_15 ?_
    refine lf_aload rfl ?_
    refine lf_iload rfl ?_
    refine lf_iload rfl ?_
    refine lf_callVWi (as := [.int y2, .int x1]) (rest := []) h rfl rfl lf_a389 rfl (Nat.le_trans (by decide) hd) rfl rfl (fun p3 h9 => s_Mod_rodsFor h9) ?_
    intro p3 h
    refine lf_iconst lf_cm1 ?_
    refine lf_icmp_eq h (fun h => ?_) (fun h => ?_)
    · refine lf_blk B_Mod_rod_36 ?_
      refine lf_iconst lf_cm1 ?_
      cases h
      exact lf_iret ⟨rfl, rfl, rfl⟩
    · refine lf_iload rfl ?_
      refine lf_iconst lf_c0 ?_
      refine lf_iload rfl ?_
      refine lf_iconst lf_c1 ?_
      refine lf_isub ?_
      refine lf_callSRb (as := [.int x2, .int (0 : Int32), .int (y2 - (1 : Int32))]) (rest := []) h rfl rfl (Nat.le_trans (by decide) hd) rfl rfl (fun p4 h9 => s_Mod_isIn h9) ?_
      intro p4 h
      refine lf_ifb_ne h (fun h => ?_) (fun h => ?_)
      · refine lf_blk B_Mod_rod_38 ?_
        refine lf_aload rfl ?_
        refine lf_getr (ci := 10) (k := 23) lf_a389 rfl (by decide) rfl ?_
        refine lf_iload rfl ?_
        refine lf_iald h lf_a402 ?_
        intro k5 h
        cases h
        exact lf_iret ⟨rfl, rfl, rfl⟩
      · refine lf_end ?_
        refine lf_blk B_Mod_rod_36 ?_
        refine lf_iconst lf_cm1 ?_
        cases h
        exact lf_iret ⟨rfl, rfl, rfl⟩
  · refine lf_iconst lf_c0 ?_
    cases h
    exact lf_iret ⟨rfl, rfl, rfl⟩
theorem s_Mod_heHas {sc : Nat × (Nat → Int32)} {x1 : Int32} {x2 : Int32} {x3 : Int32} {s : lf_S} {p : Int32 × lf_S} (h : f_Mod_heHas x1 x2 x3 s = some p) : lf_ok sc 76 j_Mod_heHas [.ref 389, .int x1, .int x2, .int x3] s (some (.int p.1)) p.2 := by
  refine lf_in (D := 75) (ls := [.ref 389, .int x1, .int x2, .int x3]) rfl (lf_zi (by decide +kernel)) rfl ?_
  intro d hd cl rc rs
  unfold f_Mod_heHas at h
  refine lf_blk B_Mod_heHas_0 ?_
  refine lf_iload rfl ?_
  refine lf_if_ne h (fun h => ?_) (fun h => ?_)
  · refine lf_blk B_Mod_heHas_24 ?_
    refine lf_iload rfl ?_
    refine lf_if_ne h (fun h => ?_) (fun h => ?_)
    · refine lf_blk B_Mod_heHas_38 ?_
      refine lf_aload rfl ?_
      refine lf_iload rfl ?_
      refine lf_iconst lf_c1 ?_
      refine lf_callVRi (as := [.int x1, .int (1 : Int32)]) (rest := []) h rfl rfl lf_a389 rfl (Nat.le_trans (by decide) hd) rfl rfl (fun p1 h9 => s_Mod_ofBed h9) ?_
      intro p1 h
      refine lf_end ?_
      refine lf_blk B_Mod_heHas_44 ?_
      cases h
      exact lf_iret ⟨rfl, rfl, rfl⟩
    · refine lf_aload rfl ?_
      refine lf_iload rfl ?_
      refine lf_iconst lf_c3 ?_
      refine lf_callVRi (as := [.int x1, .int (3 : Int32)]) (rest := []) h rfl rfl lf_a389 rfl (Nat.le_trans (by decide) hd) rfl rfl (fun p2 h9 => s_Mod_ofBed h9) ?_
      intro p2 h
      refine lf_ineg ?_
      refine lf_goto ?_
      refine lf_blk B_Mod_heHas_44 ?_
      cases h
      exact lf_iret ⟨rfl, rfl, rfl⟩
  · refine lf_iload rfl ?_
    refine lf_if_ne h (fun h => ?_) (fun h => ?_)
    · refine lf_blk B_Mod_heHas_16 ?_
      refine lf_aload rfl ?_
      refine lf_iload rfl ?_
      refine lf_callVWi (as := [.int x1]) (rest := []) h rfl rfl lf_a389 rfl (Nat.le_trans (by decide) hd) rfl rfl (fun p3 h9 => s_Mod_reachOf h9) ?_
      intro p3 h
      refine lf_iconst lf_c2 ?_
      refine lf_iadd ?_
      refine lf_end ?_
      refine lf_blk B_Mod_heHas_23 ?_
      cases h
      exact lf_iret ⟨rfl, rfl, rfl⟩
    · refine lf_aload rfl ?_
      refine lf_iload rfl ?_
      refine lf_callVWi (as := [.int x1]) (rest := []) h rfl rfl lf_a389 rfl (Nat.le_trans (by decide) hd) rfl rfl (fun p4 h9 => s_Mod_reachOf h9) ?_
      intro p4 h
      refine lf_goto ?_
      refine lf_blk B_Mod_heHas_23 ?_
      cases h
      exact lf_iret ⟨rfl, rfl, rfl⟩
theorem s_Mod_rests_30 {sc : Nat × (Nat → Int32)} {d : Nat} {Q : mj_Q} {cl : Bool} {rc rs : Nat} {c1 : Int32} {p : Int32 × lf_S} (hd : 76 ≤ d) (hk : lf_wp sc d j_Mod_rests Q 99 [mj_U, mj_U, .int p.1, mj_U, mj_U, mj_U] [] (lf_hp p.2) cl rc rs) : ∀ (n : Nat) (v2 : Int32) (v3 : Int32) (s : lf_S), f_Mod_rests_30 c1 n v2 v3 s = some p → lf_wp sc d j_Mod_rests Q 30 [.ref 389, .int c1, .int v2, .int v3, mj_U, mj_U] [] (lf_hp s) cl rc rs := by
  intro n
  induction n with
  | zero =>
    intro v2 v3 s h
    exact absurd h (fun z => by cases z)
  | succ n ih =>
    intro v2 v3 s h
    unfold f_Mod_rests_30 at h
    refine lf_blk B_Mod_rests_30 ?_
    refine lf_iload rfl ?_
    refine lf_iconst lf_c4 ?_
    refine lf_icmp_ge h (fun h => ?_) (fun h => ?_)
    · rw [← Option.some.inj h] at hk
      exact mj_w_weak (ls := [mj_U, mj_U, .int v2, mj_U, mj_U, mj_U]) (lf_rr (lf_ri (lf_rl (lf_ri (lf_rl (lf_rl (lf_r0))))))) hk
    · refine lf_iload rfl ?_
      refine lf_iconst lf_c2 ?_
      refine lf_idiv (by decide) ?_
      refine lf_istore (L := fun y5 => [.ref 389, .int c1, .int v2, .int v3, .int y5, mj_U]) h rfl rfl (fun _ => rfl) ?_
      intro y5 h
      refine lf_iload rfl ?_
      refine lf_iconst lf_c2 ?_
      refine lf_irem (by decide) ?_
      refine lf_istore (L := fun y6 => [.ref 389, .int c1, .int v2, .int v3, .int y5, .int y6]) h rfl rfl (fun _ => rfl) ?_
      intro y6 h
      refine lf_aload rfl ?_
      refine lf_iload rfl ?_
      refine lf_iconst lf_c1 ?_
      refine lf_iload rfl ?_
      refine lf_isub ?_
      refine lf_iload rfl ?_
      refine lf_callVWi (as := [.int c1, .int ((1 : Int32) - y5), .int y6]) (rest := []) h rfl rfl lf_a389 rfl (Nat.le_trans (by decide) hd) rfl rfl (fun p7 h9 => s_Mod_heHas h9) ?_
      intro p7 h
      refine lf_aload rfl ?_
      refine lf_iload rfl ?_
      refine lf_iload rfl ?_
      refine lf_iload rfl ?_
      refine lf_callVWi (as := [.int c1, .int y5, .int y6]) (rest := [.int p7.1]) h rfl rfl lf_a389 rfl (Nat.le_trans (by decide) hd) rfl rfl (fun p8 h9 => s_Mod_heHas h9) ?_
      intro p8 h
      refine lf_icmp_gt h (fun h => ?_) (fun h => ?_)
      · refine lf_blk B_Mod_rests_93 ?_
        refine lf_iinc (L := fun y9 => [.ref 389, .int c1, .int v2, .int y9, .int y5, .int y6]) h lf_c1 rfl rfl (fun _ => rfl) ?_
        intro y9 h
        refine lf_goto ?_
        exact mj_w_weak (ls := [.ref 389, .int c1, .int v2, .int y9, mj_U, mj_U]) (lf_rl (lf_rl (lf_rl (lf_rl (lf_ri (lf_ri (lf_r0))))))) (ih v2 y9 p8.2 h)
      · refine lf_iload rfl ?_
        refine lf_iconst lf_c1 ?_
        refine lf_iload rfl ?_
        refine lf_isub ?_
        refine lf_callSRi (as := [.int y5, .int ((1 : Int32) - y6)]) (rest := []) h rfl rfl (Nat.le_trans (by decide) hd) rfl rfl (fun p10 h9 => s_Mod_riverHas h9) ?_
        intro p10 h
        refine lf_iload rfl ?_
        refine lf_iload rfl ?_
        refine lf_callSRi (as := [.int y5, .int y6]) (rest := [.int p10]) h rfl rfl (Nat.le_trans (by decide) hd) rfl rfl (fun p11 h9 => s_Mod_riverHas h9) ?_
        intro p11 h
        refine lf_icmp_gt h (fun h => ?_) (fun h => ?_)
        · refine lf_blk B_Mod_rests_93 ?_
          refine lf_iinc (L := fun y12 => [.ref 389, .int c1, .int v2, .int y12, .int y5, .int y6]) h lf_c1 rfl rfl (fun _ => rfl) ?_
          intro y12 h
          refine lf_goto ?_
          exact mj_w_weak (ls := [.ref 389, .int c1, .int v2, .int y12, mj_U, mj_U]) (lf_rl (lf_rl (lf_rl (lf_rl (lf_ri (lf_ri (lf_r0))))))) (ih v2 y12 p8.2 h)
        · refine lf_iload rfl ?_
          refine lf_iconst lf_c1 ?_
          refine lf_iload rfl ?_
          refine lf_ishl ?_
          refine lf_ior ?_
          refine lf_istore (L := fun y13 => [.ref 389, .int c1, .int y13, .int v3, .int y5, .int y6]) h rfl rfl (fun _ => rfl) ?_
          intro y13 h
          refine lf_end ?_
          refine lf_blk B_Mod_rests_93 ?_
          refine lf_iinc (L := fun y14 => [.ref 389, .int c1, .int y13, .int y14, .int y5, .int y6]) h lf_c1 rfl rfl (fun _ => rfl) ?_
          intro y14 h
          refine lf_goto ?_
          exact mj_w_weak (ls := [.ref 389, .int c1, .int y13, .int y14, mj_U, mj_U]) (lf_rl (lf_rl (lf_rl (lf_rl (lf_ri (lf_ri (lf_r0))))))) (ih y13 y14 p8.2 h)
theorem s_Mod_rests {sc : Nat × (Nat → Int32)} {x1 : Int32} {s : lf_S} {p : Int32 × lf_S} (h : f_Mod_rests x1 s = some p) : lf_ok sc 77 j_Mod_rests [.ref 389, .int x1] s (some (.int p.1)) p.2 := by
  refine lf_in (D := 76) (ls := [.ref 389, .int x1, mj_U, mj_U, mj_U, mj_U]) rfl (lf_zi (by decide +kernel)) rfl ?_
  intro d hd cl rc rs
  unfold f_Mod_rests at h
  refine lf_blk B_Mod_rests_0 ?_
  refine lf_aload rfl ?_
  refine lf_aload rfl ?_
  refine lf_iload rfl ?_
  refine lf_callVRb (as := [.int x1]) (rest := [.ref 389]) h rfl rfl lf_a389 rfl (Nat.le_trans (by decide) hd) rfl rfl (fun p1 h9 => s_Mod_isBed h9) ?_
  intro p1 h
  refine lf_ifb_ne h (fun h => ?_) (fun h => ?_)
  · refine lf_blk B_Mod_rests_13 ?_
    refine lf_iconst lf_c0 ?_
    refine lf_end ?_
    refine lf_blk B_Mod_rests_14 ?_
    refine lf_putf (ci := 10) (k := 0) h lf_a389 rfl (by decide) rfl rfl rfl ?_
    intro s2 h
    refine lf_aload rfl ?_
    refine lf_getf (ci := 10) (k := 0) lf_a389 rfl (by decide) rfl ?_
    refine lf_if_le h (fun h => ?_) (fun h => ?_)
    · refine lf_blk B_Mod_rests_26 ?_
      refine lf_iconst lf_c0 ?_
      refine lf_istore (L := fun y3 => [.ref 389, .int x1, .int y3, mj_U, mj_U, mj_U]) h rfl rfl (fun _ => rfl) ?_
      intro y3 h
      refine lf_iconst lf_c0 ?_
      refine lf_istore (L := fun y4 => [.ref 389, .int x1, .int y3, .int y4, mj_U, mj_U]) h rfl rfl (fun _ => rfl) ?_
      intro y4 h
      refine lf_end ?_
      refine lf_loop h (fun p15 hp15 h => ?_)
      refine mj_w_weak (ls := [.ref 389, .int x1, .int y3, .int y4, mj_U, mj_U]) (lf_rl (lf_rl (lf_rl (lf_rl (lf_rl (lf_rl (lf_r0))))))) ?_
      refine s_Mod_rests_30 (Nat.le_trans (by decide) hd) ?_ 5000 y3 y4 s2 hp15
      refine lf_blk B_Mod_rests_99 ?_
      refine lf_iload rfl ?_
      cases h
      exact lf_iret ⟨rfl, rfl, rfl⟩
    · refine lf_iconst lf_c0 ?_
      cases h
      exact lf_iret ⟨rfl, rfl, rfl⟩
  · refine lf_iconst lf_c1 ?_
    refine lf_goto ?_
    refine lf_blk B_Mod_rests_14 ?_
    refine lf_putf (ci := 10) (k := 0) h lf_a389 rfl (by decide) rfl rfl rfl ?_
    intro s16 h
    refine lf_aload rfl ?_
    refine lf_getf (ci := 10) (k := 0) lf_a389 rfl (by decide) rfl ?_
    refine lf_if_le h (fun h => ?_) (fun h => ?_)
    · refine lf_blk B_Mod_rests_26 ?_
      refine lf_iconst lf_c0 ?_
      refine lf_istore (L := fun y17 => [.ref 389, .int x1, .int y17, mj_U, mj_U, mj_U]) h rfl rfl (fun _ => rfl) ?_
      intro y17 h
      refine lf_iconst lf_c0 ?_
      refine lf_istore (L := fun y18 => [.ref 389, .int x1, .int y17, .int y18, mj_U, mj_U]) h rfl rfl (fun _ => rfl) ?_
      intro y18 h
      refine lf_end ?_
      refine lf_loop h (fun p19 hp19 h => ?_)
      refine mj_w_weak (ls := [.ref 389, .int x1, .int y17, .int y18, mj_U, mj_U]) (lf_rl (lf_rl (lf_rl (lf_rl (lf_rl (lf_rl (lf_r0))))))) ?_
      refine s_Mod_rests_30 (Nat.le_trans (by decide) hd) ?_ 5000 y17 y18 s16 hp19
      refine lf_blk B_Mod_rests_99 ?_
      refine lf_iload rfl ?_
      cases h
      exact lf_iret ⟨rfl, rfl, rfl⟩
    · refine lf_iconst lf_c0 ?_
      cases h
      exact lf_iret ⟨rfl, rfl, rfl⟩
