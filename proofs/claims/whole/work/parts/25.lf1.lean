theorem B_Tape_push_0 : mj_bl j_Tape_push 0 = some ([(0, .iconst 24), (2, .istore 2)], 3) := by rfl
theorem B_Tape_push_3 : mj_bl j_Tape_push 3 = some ([(3, .iload 2), (4, .ifCond .lt 49), (7, .aload 0), (8, .getfield 449), (11, .iconst 400), (14, .if_icmp .ge 49), (17, .aload 0), (18, .getfield 448), (21, .aload 0), (22, .getfield 449), (25, .iload 1), (26, .iload 2), (27, .iushr), (28, .iconst 255), (31, .iand), (32, .iastore), (33, .aload 0), (34, .dup), (35, .getfield 449), (38, .iconst 1), (39, .iadd), (40, .putfield 449), (43, .iinc 2 (-8)), (46, .goto 3)], 49) := by rfl
theorem B_Tape_push_49 : mj_bl j_Tape_push 49 = some ([(49, .return_)], 50) := by rfl
theorem B_Beds_copy_0 : mj_bl j_Beds_copy 0 = some ([(0, .aload 0), (1, .aload 1), (2, .getfield 64), (5, .putfield 64), (8, .aload 1), (9, .getfield 65), (12, .iconst 0), (13, .aload 0), (14, .getfield 65), (17, .iconst 0), (18, .iconst 6), (20, .dup2_x1), (23, .aload 1), (24, .getfield 66), (27, .iconst 0), (28, .aload 0), (29, .getfield 66), (32, .iconst 0), (33, .iconst 6), (35, .dup2_x1), (38, .aload 1), (39, .getfield 67), (42, .iconst 0), (43, .aload 0), (44, .getfield 67), (47, .iconst 0), (48, .iconst 6), (50, .dup2_x1), (53, .aload 1), (54, .getfield 68), (57, .iconst 0), (58, .aload 0), (59, .getfield 68), (62, .iconst 0), (63, .iconst 6), (65, .dup2_x1), (68, .return_)], 69) := by rfl
theorem B_Baskets_copy_0 : mj_bl j_Baskets_copy 0 = some ([(0, .aload 0), (1, .aload 1), (2, .getfield 0), (5, .putfield 0), (8, .aload 1), (9, .getfield 1), (12, .iconst 0), (13, .aload 0), (14, .getfield 1), (17, .iconst 0), (18, .iconst 5), (19, .dup2_x1), (22, .aload 1), (23, .getfield 2), (26, .iconst 0), (27, .aload 0), (28, .getfield 2), (31, .iconst 0), (32, .iconst 5), (33, .dup2_x1), (36, .aload 1), (37, .getfield 3), (40, .iconst 0), (41, .aload 0), (42, .getfield 3), (45, .iconst 0), (46, .iconst 5), (47, .dup2_x1), (50, .aload 1), (51, .getfield 4), (54, .iconst 0), (55, .aload 0), (56, .getfield 4), (59, .iconst 0), (60, .iconst 5), (61, .dup2_x1), (64, .aload 1), (65, .getfield 5), (68, .iconst 0), (69, .aload 0), (70, .getfield 5), (73, .iconst 0), (74, .iconst 5), (75, .dup2_x1), (78, .aload 1), (79, .getfield 6), (82, .iconst 0), (83, .aload 0), (84, .getfield 6), (87, .iconst 0), (88, .iconst 5), (89, .dup2_x1), (92, .aload 1), (93, .getfield 7), (96, .iconst 0), (97, .aload 0), (98, .getfield 7), (101, .iconst 0), (102, .iconst 30), (104, .dup2_x1), (107, .aload 1), (108, .getfield 8), (111, .iconst 0), (112, .aload 0), (113, .getfield 8), (116, .iconst 0), (117, .iconst 5), (118, .dup2_x1), (121, .return_)], 122) := by rfl
theorem B_Hands_copy_0 : mj_bl j_Hands_copy 0 = some ([(0, .aload 0), (1, .aload 1), (2, .getfield 128), (5, .putfield 128), (8, .aload 1), (9, .getfield 129), (12, .iconst 0), (13, .aload 0), (14, .getfield 129), (17, .iconst 0), (18, .iconst 5), (19, .dup2_x1), (22, .aload 1), (23, .getfield 130), (26, .iconst 0), (27, .aload 0), (28, .getfield 130), (31, .iconst 0), (32, .iconst 5), (33, .dup2_x1), (36, .return_)], 37) := by rfl
theorem B_Orders_copy_0 : mj_bl j_Orders_copy 0 = some ([(0, .aload 0), (1, .aload 1), (2, .getfield 384), (5, .putfield 384), (8, .aload 0), (9, .aload 1), (10, .getfield 385), (13, .putfield 385), (16, .aload 1), (17, .getfield 386), (20, .iconst 0), (21, .aload 0), (22, .getfield 386), (25, .iconst 0), (26, .iconst 6), (28, .dup2_x1), (31, .aload 1), (32, .getfield 387), (35, .iconst 0), (36, .aload 0), (37, .getfield 387), (40, .iconst 0), (41, .iconst 6), (43, .dup2_x1), (46, .return_)], 47) := by rfl
theorem B_Log_copy_0 : mj_bl j_Log_copy 0 = some ([(0, .aload 0), (1, .aload 1), (2, .getfield 320), (5, .putfield 320), (8, .aload 1), (9, .getfield 321), (12, .iconst 0), (13, .aload 0), (14, .getfield 321), (17, .iconst 0), (18, .iconst 240), (21, .dup2_x1), (24, .return_)], 25) := by rfl
theorem B_Tape_moveTo_0 : mj_bl j_Tape_moveTo 0 = some ([(0, .aload 0), (1, .iload 1), (2, .putfield 451)], 5) := by rfl
theorem B_Tape_moveTo_5 : mj_bl j_Tape_moveTo 5 = some ([(5, .aload 0), (6, .getfield 451), (9, .aload 0), (10, .getfield 449), (13, .if_icmp .ge 43), (16, .aload 0), (17, .getfield 448), (20, .aload 0), (21, .getfield 451), (24, .iaload), (25, .iconst 32), (27, .if_icmp .ne 43), (30, .aload 0), (31, .dup), (32, .getfield 451), (35, .iconst 1), (36, .iadd), (37, .putfield 451), (40, .goto 5)], 43) := by rfl
theorem B_Tape_moveTo_43 : mj_bl j_Tape_moveTo 43 = some ([(43, .return_)], 44) := by rfl
theorem B_Tape_start_0 : mj_bl j_Tape_start 0 = some ([(0, .aload 0), (1, .iconst (-1)), (2, .putfield 450), (5, .aload 0), (6, .iconst 0), (7, .invokevirtual 42207457), (10, .return_)], 11) := by rfl
theorem B_Tape_failed_0 : mj_bl j_Tape_failed 0 = some ([(0, .aload 0), (1, .getfield 450), (4, .iconst (-1)), (5, .if_icmp .eq 12), (8, .iconst 1), (9, .goto 13)], 12) := by rfl
theorem B_Tape_failed_12 : mj_bl j_Tape_failed 12 = some ([(12, .iconst 0)], 13) := by rfl
theorem B_Tape_failed_13 : mj_bl j_Tape_failed 13 = some ([(13, .ireturn)], 14) := by rfl
theorem B_Tape_isSign_0 : mj_bl j_Tape_isSign 0 = some ([(0, .aload 0), (1, .invokevirtual 40830176), (4, .ifCond .ne 35), (7, .aload 0), (8, .getfield 451), (11, .aload 0), (12, .getfield 449), (15, .if_icmp .ge 35), (18, .aload 0), (19, .getfield 448), (22, .aload 0), (23, .getfield 451), (26, .iaload), (27, .iload 1), (28, .if_icmp .ne 35), (31, .iconst 1), (32, .goto 36)], 35) := by rfl
theorem B_Tape_isSign_35 : mj_bl j_Tape_isSign 35 = some ([(35, .iconst 0)], 36) := by rfl
theorem B_Tape_isSign_36 : mj_bl j_Tape_isSign 36 = some ([(36, .ireturn)], 37) := by rfl
theorem B_Tape_takeSign_0 : mj_bl j_Tape_takeSign 0 = some ([(0, .aload 0), (1, .iload 1), (2, .invokevirtual 41224417), (5, .istore 2), (6, .iload 2), (7, .ifCond .eq 20), (10, .aload 0), (11, .aload 0), (12, .getfield 451), (15, .iconst 1), (16, .iadd), (17, .invokevirtual 42207457)], 20) := by rfl
theorem B_Tape_takeSign_20 : mj_bl j_Tape_takeSign 20 = some ([(20, .iload 2), (21, .ireturn)], 22) := by rfl
theorem B_Tape_fail_0 : mj_bl j_Tape_fail 0 = some ([(0, .aload 0), (1, .getfield 450), (4, .iconst (-1)), (5, .if_icmp .ne 16), (8, .aload 0), (9, .aload 0), (10, .getfield 451), (13, .putfield 450)], 16) := by rfl
theorem B_Tape_fail_16 : mj_bl j_Tape_fail 16 = some ([(16, .return_)], 17) := by rfl
theorem B_Tape_lineComes_0 : mj_bl j_Tape_lineComes 0 = some ([(0, .aload 0), (1, .invokevirtual 40830176), (4, .ifCond .ne 18), (7, .aload 0), (8, .getfield 451), (11, .aload 0), (12, .getfield 449), (15, .if_icmp .lt 20)], 18) := by rfl
theorem B_Tape_lineComes_18 : mj_bl j_Tape_lineComes 18 = some ([(18, .iconst 0), (19, .ireturn)], 20) := by rfl
theorem B_Tape_lineComes_20 : mj_bl j_Tape_lineComes 20 = some ([(20, .iload 1), (21, .ifCond .ne 26), (24, .iconst 1), (25, .ireturn)], 26) := by rfl
theorem B_Tape_lineComes_26 : mj_bl j_Tape_lineComes 26 = some ([(26, .aload 0), (27, .iconst 59), (29, .invokevirtual 41356513), (32, .ifCond .eq 40), (35, .iload 1), (36, .iload 2), (37, .if_icmp .lt 44)], 40) := by rfl
theorem B_Tape_lineComes_40 : mj_bl j_Tape_lineComes 40 = some ([(40, .aload 0), (41, .invokevirtual 40895712)], 44) := by rfl
theorem B_Tape_lineComes_44 : mj_bl j_Tape_lineComes 44 = some ([(44, .aload 0), (45, .invokevirtual 40830176), (48, .ifCond .ne 55), (51, .iconst 1), (52, .goto 56)], 55) := by rfl
theorem B_Tape_lineComes_55 : mj_bl j_Tape_lineComes 55 = some ([(55, .iconst 0)], 56) := by rfl
theorem B_Tape_lineComes_56 : mj_bl j_Tape_lineComes 56 = some ([(56, .ireturn)], 57) := by rfl
theorem B_Tape_isWord_0 : mj_bl j_Tape_isWord 0 = some ([(0, .aload 0), (1, .getfield 451), (4, .aload 1), (5, .dup2_x2), (8, .iadd), (9, .istore 2), (10, .aload 0), (11, .getfield 450), (14, .iconst (-1)), (15, .if_icmp .ne 26), (18, .iload 2), (19, .aload 0), (20, .getfield 449), (23, .if_icmp .le 28)], 26) := by rfl
theorem B_Tape_isWord_26 : mj_bl j_Tape_isWord 26 = some ([(26, .iconst 0), (27, .ireturn)], 28) := by rfl
theorem B_Tape_isWord_28 : mj_bl j_Tape_isWord 28 = some ([(28, .aload 0), (29, .getfield 451), (32, .istore 3)], 33) := by rfl
theorem B_Tape_isWord_33 : mj_bl j_Tape_isWord 33 = some ([(33, .iload 3), (34, .iload 2), (35, .if_icmp .ge 65), (38, .aload 0), (39, .getfield 448), (42, .iload 3), (43, .iaload), (44, .aload 1), (45, .iload 3), (46, .aload 0), (47, .getfield 451), (50, .isub), (51, .swap), (54, .if_icmp .eq 59), (57, .iconst 0), (58, .ireturn)], 59) := by rfl
theorem B_Tape_isWord_59 : mj_bl j_Tape_isWord 59 = some ([(59, .iinc 3 (1)), (62, .goto 33)], 65) := by rfl
theorem B_Tape_isWord_65 : mj_bl j_Tape_isWord 65 = some ([(65, .iload 2), (66, .aload 0), (67, .getfield 449), (70, .if_icmp .eq 95), (73, .aload 0), (74, .getfield 448), (77, .iload 2), (78, .iaload), (79, .iconst 97), (81, .if_icmp .lt 95), (84, .aload 0), (85, .getfield 448), (88, .iload 2), (89, .iaload), (90, .iconst 122), (92, .if_icmp .le 99)], 95) := by rfl
theorem B_Tape_isWord_95 : mj_bl j_Tape_isWord 95 = some ([(95, .iconst 1), (96, .goto 100)], 99) := by rfl
theorem B_Tape_isWord_99 : mj_bl j_Tape_isWord 99 = some ([(99, .iconst 0)], 100) := by rfl
theorem B_Tape_isWord_100 : mj_bl j_Tape_isWord 100 = some ([(100, .ireturn)], 101) := by rfl
theorem B_Tape_takeWord_0 : mj_bl j_Tape_takeWord 0 = some ([(0, .aload 0), (1, .aload 1), (2, .invokevirtual 41488609), (5, .istore 2), (6, .iload 2), (7, .ifCond .eq 23), (10, .aload 0), (11, .aload 0), (12, .getfield 451), (15, .aload 1), (16, .dup2_x2), (19, .iadd), (20, .invokevirtual 42207457)], 23) := by rfl
theorem B_Tape_takeWord_23 : mj_bl j_Tape_takeWord 23 = some ([(23, .iload 2), (24, .ireturn)], 25) := by rfl
theorem B_Tape_needWord_0 : mj_bl j_Tape_needWord 0 = some ([(0, .aload 0), (1, .aload 1), (2, .invokevirtual 41618657), (5, .ifCond .ne 12), (8, .aload 0), (9, .invokevirtual 40895712)], 12) := by rfl
theorem B_Tape_needWord_12 : mj_bl j_Tape_needWord 12 = some ([(12, .return_)], 13) := by rfl
theorem B_Tape_isDigit_0 : mj_bl j_Tape_isDigit 0 = some ([(0, .iload 0), (1, .iconst 48), (3, .if_icmp .lt 16), (6, .iload 0), (7, .iconst 57), (9, .if_icmp .gt 16), (12, .iconst 1), (13, .goto 17)], 16) := by rfl
theorem B_Tape_isDigit_16 : mj_bl j_Tape_isDigit 16 = some ([(16, .iconst 0)], 17) := by rfl
theorem B_Tape_isDigit_17 : mj_bl j_Tape_isDigit 17 = some ([(17, .ireturn)], 18) := by rfl
theorem B_Tape_takeNumber_0 : mj_bl j_Tape_takeNumber 0 = some ([(0, .aload 0), (1, .getfield 451), (4, .istore 3), (5, .iconst 0), (6, .istore 4)], 8) := by rfl
theorem B_Tape_takeNumber_8 : mj_bl j_Tape_takeNumber 8 = some ([(8, .iload 3), (9, .aload 0), (10, .getfield 449), (13, .if_icmp .ge 61), (16, .iload 3), (17, .aload 0), (18, .getfield 451), (21, .isub), (22, .iconst 3), (23, .if_icmp .gt 61), (26, .aload 0), (27, .getfield 448), (30, .iload 3), (31, .iaload), (32, .invokestatic 42140897), (35, .ifCond .eq 61), (38, .iconst 10), (40, .iload 4), (42, .imul), (43, .aload 0), (44, .getfield 448), (47, .iload 3), (48, .iaload), (49, .iadd), (50, .iconst 48), (52, .isub), (53, .istore 4), (55, .iinc 3 (1)), (58, .goto 8)], 61) := by rfl
theorem B_Tape_takeNumber_61 : mj_bl j_Tape_takeNumber 61 = some ([(61, .iload 3), (62, .aload 0), (63, .getfield 451), (66, .if_icmp .eq 91), (69, .iload 3), (70, .aload 0), (71, .getfield 451), (74, .isub), (75, .iconst 3), (76, .if_icmp .gt 91), (79, .iload 4), (81, .iload 1), (82, .if_icmp .lt 91), (85, .iload 4), (87, .iload 2), (88, .if_icmp .le 95)], 91) := by rfl
theorem B_Tape_takeNumber_91 : mj_bl j_Tape_takeNumber 91 = some ([(91, .aload 0), (92, .invokevirtual 40895712)], 95) := by rfl
theorem B_Tape_takeNumber_95 : mj_bl j_Tape_takeNumber 95 = some ([(95, .aload 0), (96, .invokevirtual 40830176), (99, .ifCond .eq 104), (102, .iload 1), (103, .ireturn)], 104) := by rfl
theorem B_Tape_takeNumber_104 : mj_bl j_Tape_takeNumber 104 = some ([(104, .aload 0), (105, .iload 3), (106, .invokevirtual 42207457), (109, .iload 4), (111, .ireturn)], 112) := by rfl
theorem B_Beds_add_0 : mj_bl j_Beds_add 0 = some ([(0, .aload 0), (1, .getfield 64), (4, .iconst 6), (6, .if_icmp .ge 60), (9, .aload 0), (10, .getfield 65), (13, .aload 0), (14, .getfield 64), (17, .iload 1), (18, .iastore), (19, .aload 0), (20, .getfield 66), (23, .aload 0), (24, .getfield 64), (27, .iload 2), (28, .iastore), (29, .aload 0), (30, .getfield 67), (33, .aload 0), (34, .getfield 64), (37, .iload 3), (38, .iastore), (39, .aload 0), (40, .getfield 68), (43, .aload 0), (44, .getfield 64), (47, .iload 4), (49, .iastore), (50, .aload 0), (51, .dup), (52, .getfield 64), (55, .iconst 1), (56, .iadd), (57, .putfield 64)], 60) := by rfl
theorem B_Beds_add_60 : mj_bl j_Beds_add 60 = some ([(60, .return_)], 61) := by rfl
theorem B_Baskets_beginWeave_0 : mj_bl j_Baskets_beginWeave 0 = some ([(0, .aload 0), (1, .getfield 5), (4, .iload 1), (5, .iconst 0), (6, .iastore), (7, .aload 0), (8, .getfield 6), (11, .iload 1), (12, .iconst 0), (13, .iastore), (14, .aload 0), (15, .getfield 8), (18, .iload 1), (19, .iconst 0), (20, .iastore), (21, .return_)], 22) := by rfl
theorem B_Tape_isNumber_0 : mj_bl j_Tape_isNumber 0 = some ([(0, .aload 0), (1, .invokevirtual 40830176), (4, .ifCond .ne 37), (7, .aload 0), (8, .getfield 451), (11, .aload 0), (12, .getfield 449), (15, .if_icmp .ge 37), (18, .aload 0), (19, .getfield 448), (22, .aload 0), (23, .getfield 451), (26, .iaload), (27, .invokestatic 42140897), (30, .ifCond .eq 37), (33, .iconst 1), (34, .goto 38)], 37) := by rfl
theorem B_Tape_isNumber_37 : mj_bl j_Tape_isNumber 37 = some ([(37, .iconst 0)], 38) := by rfl
theorem B_Tape_isNumber_38 : mj_bl j_Tape_isNumber 38 = some ([(38, .ireturn)], 39) := by rfl
theorem B_Baskets_addRun_0 : mj_bl j_Baskets_addRun 0 = some ([(0, .aload 0), (1, .getfield 5), (4, .iload 1), (5, .iaload), (6, .istore 3), (7, .iload 3), (8, .iconst 6), (10, .if_icmp .lt 14), (13, .return_)], 14) := by rfl
theorem B_Baskets_addRun_14 : mj_bl j_Baskets_addRun 14 = some ([(14, .iload 3), (15, .iconst 2), (16, .irem), (17, .ifCond .ne 41), (20, .aload 0), (21, .getfield 8), (24, .iload 1), (25, .dup2), (26, .iaload), (27, .iconst 1), (28, .iload 2), (29, .ishl), (30, .iconst 1), (31, .isub), (32, .aload 0), (33, .getfield 6), (36, .iload 1), (37, .iaload), (38, .ishl), (39, .ior), (40, .iastore)], 41) := by rfl
theorem B_Baskets_addRun_41 : mj_bl j_Baskets_addRun 41 = some ([(41, .aload 0), (42, .getfield 7), (45, .iload 1), (46, .iconst 6), (48, .imul), (49, .iload 3), (50, .iadd), (51, .iload 2), (52, .iastore), (53, .aload 0), (54, .getfield 6), (57, .iload 1), (58, .dup2), (59, .iaload), (60, .iload 2), (61, .iadd), (62, .iastore), (63, .aload 0), (64, .getfield 5), (67, .iload 1), (68, .dup2), (69, .iaload), (70, .iconst 1), (71, .iadd), (72, .iastore), (73, .return_)], 74) := by rfl
theorem B_Hands_add_0 : mj_bl j_Hands_add 0 = some ([(0, .aload 0), (1, .getfield 128), (4, .iconst 5), (5, .if_icmp .ge 38), (8, .aload 0), (9, .getfield 129), (12, .aload 0), (13, .getfield 128), (16, .iload 1), (17, .iastore), (18, .aload 0), (19, .getfield 130), (22, .aload 0), (23, .getfield 128), (26, .iload 2), (27, .iastore), (28, .aload 0), (29, .dup), (30, .getfield 128), (33, .iconst 1), (34, .iadd), (35, .putfield 128)], 38) := by rfl
theorem B_Hands_add_38 : mj_bl j_Hands_add 38 = some ([(38, .return_)], 39) := by rfl
theorem B_Orders_add_0 : mj_bl j_Orders_add 0 = some ([(0, .aload 0), (1, .getfield 384), (4, .iconst 6), (6, .if_icmp .ge 54), (9, .aload 0), (10, .getfield 386), (13, .aload 0), (14, .getfield 384), (17, .iload 1), (18, .iastore), (19, .aload 0), (20, .getfield 387), (23, .aload 0), (24, .getfield 384), (27, .iload 2), (28, .iastore), (29, .aload 0), (30, .dup), (31, .getfield 385), (34, .iconst 1), (35, .aload 0), (36, .getfield 384), (39, .ishl), (40, .ior), (41, .putfield 385), (44, .aload 0), (45, .dup), (46, .getfield 384), (49, .iconst 1), (50, .iadd), (51, .putfield 384)], 54) := by rfl
theorem B_Orders_add_54 : mj_bl j_Orders_add 54 = some ([(54, .return_)], 55) := by rfl
theorem B_Beds_partOf_0 : mj_bl j_Beds_partOf 0 = some ([(0, .iconst 0), (1, .istore 2), (2, .iconst 0), (3, .istore 3)], 4) := by rfl
theorem B_Beds_partOf_4 : mj_bl j_Beds_partOf 4 = some ([(4, .iload 3), (5, .aload 0), (6, .getfield 64), (9, .if_icmp .ge 27), (12, .iload 2), (13, .aload 0), (14, .getfield 67), (17, .iload 3), (18, .iaload), (19, .iadd), (20, .istore 2), (21, .iinc 3 (1)), (24, .goto 4)], 27) := by rfl
theorem B_Beds_partOf_27 : mj_bl j_Beds_partOf 27 = some ([(27, .iload 2), (28, .iconst 1), (29, .if_icmp .ge 36), (32, .iconst 0), (33, .goto 47)], 36) := by rfl
theorem B_Beds_partOf_36 : mj_bl j_Beds_partOf 36 = some ([(36, .iconst 100), (38, .aload 0), (39, .getfield 67), (42, .iload 1), (43, .iaload), (44, .imul), (45, .iload 2), (46, .idiv)], 47) := by rfl
theorem B_Beds_partOf_47 : mj_bl j_Beds_partOf 47 = some ([(47, .ireturn)], 48) := by rfl
theorem B_Baskets_needOf_0 : mj_bl j_Baskets_needOf 0 = some ([(0, .iconst 12), (2, .aload 0), (3, .getfield 3), (6, .iload 1), (7, .iaload), (8, .imul), (9, .iconst 2), (10, .isub), (11, .istore 2), (12, .iload 2), (13, .iconst 1), (14, .if_icmp .ge 19), (17, .iconst 0), (18, .ireturn)], 19) := by rfl
theorem B_Baskets_needOf_19 : mj_bl j_Baskets_needOf 19 = some ([(19, .aload 0), (20, .getfield 1), (23, .iload 1), (24, .iaload), (25, .aload 0), (26, .getfield 2), (29, .iload 1), (30, .iaload), (31, .imul), (32, .iconst 2), (33, .imul), (34, .istore 3), (35, .aload 0), (36, .getfield 1), (39, .iload 1), (40, .iaload), (41, .iload 3), (42, .iload 2), (43, .iadd), (44, .iconst 1), (45, .isub), (46, .iload 2), (47, .idiv), (48, .iadd), (49, .ireturn)], 50) := by rfl
theorem B_Baskets_passesOver_0 : mj_bl j_Baskets_passesOver 0 = some ([(0, .aload 0), (1, .getfield 6), (4, .iload 1), (5, .iaload), (6, .istore 3), (7, .iload 3), (8, .ifCond .le 31), (11, .aload 0), (12, .getfield 8), (15, .iload 1), (16, .iaload), (17, .iload 2), (18, .iload 3), (19, .irem), (20, .ishr), (21, .iconst 1), (22, .iand), (23, .iconst 1), (24, .if_icmp .ne 31), (27, .iconst 1), (28, .goto 32)], 31) := by rfl
theorem B_Baskets_passesOver_31 : mj_bl j_Baskets_passesOver 31 = some ([(31, .iconst 0)], 32) := by rfl
theorem B_Baskets_passesOver_32 : mj_bl j_Baskets_passesOver 32 = some ([(32, .ireturn)], 33) := by rfl
theorem B_Baskets_isAlikeAfter_0 : mj_bl j_Baskets_isAlikeAfter 0 = some ([(0, .iconst 0), (1, .istore 3)], 2) := by rfl
theorem B_Baskets_isAlikeAfter_2 : mj_bl j_Baskets_isAlikeAfter 2 = some ([(2, .iload 3), (3, .aload 0), (4, .getfield 6), (7, .iload 1), (8, .iaload), (9, .if_icmp .ge 37), (12, .aload 0), (13, .iload 1), (14, .iload 3), (15, .invokevirtual 29560834), (18, .aload 0), (19, .iload 1), (20, .iload 3), (21, .iload 2), (22, .iadd), (23, .invokevirtual 29560834), (26, .if_icmp .eq 31), (29, .iconst 0), (30, .ireturn)], 31) := by rfl
theorem B_Baskets_isAlikeAfter_31 : mj_bl j_Baskets_isAlikeAfter 31 = some ([(31, .iinc 3 (1)), (34, .goto 2)], 37) := by rfl
theorem B_Baskets_isAlikeAfter_37 : mj_bl j_Baskets_isAlikeAfter 37 = some ([(37, .iconst 1), (38, .ireturn)], 39) := by rfl
theorem B_Baskets_againOf_0 : mj_bl j_Baskets_againOf 0 = some ([(0, .aload 0), (1, .getfield 6), (4, .iload 1), (5, .iaload), (6, .istore 2), (7, .iconst 1), (8, .istore 3)], 9) := by rfl
theorem B_Baskets_againOf_9 : mj_bl j_Baskets_againOf 9 = some ([(9, .iload 3), (10, .iload 2), (11, .if_icmp .ge 38), (14, .aload 0), (15, .iload 1), (16, .iload 3), (17, .aload 0), (18, .getfield 1), (21, .iload 1), (22, .iaload), (23, .imul), (24, .invokevirtual 29954050), (27, .ifCond .eq 32), (30, .iload 3), (31, .ireturn)], 32) := by rfl
theorem B_Baskets_againOf_32 : mj_bl j_Baskets_againOf 32 = some ([(32, .iinc 3 (1)), (35, .goto 9)], 38) := by rfl
theorem B_Baskets_againOf_38 : mj_bl j_Baskets_againOf 38 = some ([(38, .iload 2), (39, .ireturn)], 40) := by rfl
theorem B_Baskets_longestAlike_0 : mj_bl j_Baskets_longestAlike 0 = some ([(0, .iconst 0), (1, .istore 5), (3, .iconst 0), (4, .istore 6), (6, .iconst 0), (7, .istore 7), (9, .iconst 0), (10, .istore 8)], 12) := by rfl
theorem B_Baskets_longestAlike_12 : mj_bl j_Baskets_longestAlike 12 = some ([(12, .iload 8), (14, .iload 4), (16, .if_icmp .ge 73), (19, .aload 0), (20, .iload 1), (21, .iload 2), (22, .iload 8), (24, .iload 3), (25, .imul), (26, .iadd), (27, .invokevirtual 29560834), (30, .istore 9), (32, .iload 8), (34, .ifCond .le 51), (37, .iload 9), (39, .iload 7), (41, .if_icmp .ne 51), (44, .iload 6), (46, .iconst 1), (47, .iadd), (48, .goto 52)], 51) := by rfl
theorem B_Baskets_longestAlike_51 : mj_bl j_Baskets_longestAlike 51 = some ([(51, .iconst 1)], 52) := by rfl
theorem B_Baskets_longestAlike_52 : mj_bl j_Baskets_longestAlike 52 = some ([(52, .istore 6), (54, .iload 5), (56, .iload 6), (58, .dup_x1), (61, .istore 5), (63, .iload 9), (65, .istore 7), (67, .iinc 8 (1)), (70, .goto 12)], 73) := by rfl
theorem B_Baskets_longestAlike_73 : mj_bl j_Baskets_longestAlike 73 = some ([(73, .iload 5), (75, .ireturn)], 76) := by rfl
theorem B_Baskets_looseOf_0 : mj_bl j_Baskets_looseOf 0 = some ([(0, .iconst 0), (1, .istore 3), (2, .iconst 0), (3, .istore 4)], 5) := by rfl
theorem B_Baskets_looseOf_5 : mj_bl j_Baskets_looseOf 5 = some ([(5, .iload 4), (7, .iload 2), (8, .if_icmp .ge 47), (11, .aload 0), (12, .iload 1), (13, .iload 4), (15, .iload 2), (16, .aload 0), (17, .getfield 2), (20, .iload 1), (21, .iaload), (22, .invokevirtual 30418948), (25, .aload 0), (26, .getfield 2), (29, .iload 1), (30, .iaload), (31, .if_icmp .ne 41), (34, .iload 3), (35, .iconst 1), (36, .iload 4), (38, .ishl), (39, .ior), (40, .istore 3)], 41) := by rfl
theorem B_Baskets_looseOf_41 : mj_bl j_Baskets_looseOf 41 = some ([(41, .iinc 4 (1)), (44, .goto 5)], 47) := by rfl
theorem B_Baskets_looseOf_47 : mj_bl j_Baskets_looseOf 47 = some ([(47, .iload 3), (48, .ireturn)], 49) := by rfl
theorem B_Baskets_floatOf_0 : mj_bl j_Baskets_floatOf 0 = some ([(0, .aload 0), (1, .iload 1), (2, .iconst 0), (3, .iconst 1), (4, .aload 0), (5, .getfield 1), (8, .iload 1), (9, .iaload), (10, .aload 0), (11, .getfield 2), (14, .iload 1), (15, .iaload), (16, .imul), (17, .invokevirtual 30418948), (20, .ireturn)], 21) := by rfl
theorem B_Baskets_dropOf_0 : mj_bl j_Baskets_dropOf 0 = some ([(0, .iconst 0), (1, .istore 2), (2, .iconst 0), (3, .istore 3)], 4) := by rfl
theorem B_Baskets_dropOf_4 : mj_bl j_Baskets_dropOf 4 = some ([(4, .iload 3), (5, .aload 0), (6, .getfield 1), (9, .iload 1), (10, .iaload), (11, .if_icmp .ge 43), (14, .iload 2), (15, .aload 0), (16, .iload 1), (17, .iload 3), (18, .aload 0), (19, .getfield 1), (22, .iload 1), (23, .iaload), (24, .aload 0), (25, .getfield 2), (28, .iload 1), (29, .iaload), (30, .invokevirtual 30418948), (33, .dup_x1), (36, .istore 2), (37, .iinc 3 (1)), (40, .goto 4)], 43) := by rfl
theorem B_Baskets_dropOf_43 : mj_bl j_Baskets_dropOf 43 = some ([(43, .iload 2), (44, .ireturn)], 45) := by rfl
theorem B_Baskets_isBlind_0 : mj_bl j_Baskets_isBlind 0 = some ([(0, .iconst 0), (1, .istore 3)], 2) := by rfl
theorem B_Baskets_isBlind_2 : mj_bl j_Baskets_isBlind 2 = some ([(2, .iload 3), (3, .aload 0), (4, .getfield 1), (7, .iload 1), (8, .iaload), (9, .if_icmp .ge 56), (12, .iload 2), (13, .aload 0), (14, .getfield 1), (17, .iload 1), (18, .iaload), (19, .imul), (20, .iload 3), (21, .iadd), (22, .istore 4), (24, .aload 0), (25, .iload 1), (26, .iload 4), (28, .invokevirtual 29560834), (31, .aload 0), (32, .iload 1), (33, .iload 4), (35, .aload 0), (36, .getfield 1), (39, .iload 1), (40, .iaload), (41, .isub), (42, .invokevirtual 29560834), (45, .if_icmp .eq 50), (48, .iconst 0), (49, .ireturn)], 50) := by rfl
theorem B_Baskets_isBlind_50 : mj_bl j_Baskets_isBlind 50 = some ([(50, .iinc 3 (1)), (53, .goto 2)], 56) := by rfl
theorem B_Baskets_isBlind_56 : mj_bl j_Baskets_isBlind 56 = some ([(56, .iconst 1), (57, .ireturn)], 58) := by rfl
theorem B_Baskets_blindOf_0 : mj_bl j_Baskets_blindOf 0 = some ([(0, .iconst 0), (1, .istore 2), (2, .iconst 1), (3, .istore 3)], 4) := by rfl
theorem B_Baskets_blindOf_4 : mj_bl j_Baskets_blindOf 4 = some ([(4, .iload 3), (5, .aload 0), (6, .getfield 2), (9, .iload 1), (10, .iaload), (11, .if_icmp .ge 32), (14, .aload 0), (15, .iload 1), (16, .iload 3), (17, .invokevirtual 30741506), (20, .ifCond .eq 26), (23, .iinc 2 (1))], 26) := by rfl
theorem B_Baskets_blindOf_26 : mj_bl j_Baskets_blindOf 26 = some ([(26, .iinc 3 (1)), (29, .goto 4)], 32) := by rfl
theorem B_Baskets_blindOf_32 : mj_bl j_Baskets_blindOf 32 = some ([(32, .iload 2), (33, .ireturn)], 34) := by rfl
theorem B_Baskets_fitOf_0 : mj_bl j_Baskets_fitOf 0 = some ([(0, .iconst 3), (1, .istore 2)], 2) := by rfl
theorem B_Baskets_fitOf_2 : mj_bl j_Baskets_fitOf 2 = some ([(2, .iload 2), (3, .iconst 24), (5, .if_icmp .gt 25), (8, .aload 0), (9, .iload 1), (10, .iload 2), (11, .invokevirtual 30020610), (14, .ifCond .ne 19), (17, .iload 2), (18, .ireturn)], 19) := by rfl
theorem B_Baskets_fitOf_19 : mj_bl j_Baskets_fitOf 19 = some ([(19, .iinc 2 (1)), (22, .goto 2)], 25) := by rfl
theorem B_Baskets_fitOf_25 : mj_bl j_Baskets_fitOf 25 = some ([(25, .iconst (-1)), (26, .ireturn)], 27) := by rfl
theorem B_Baskets_runOf_0 : mj_bl j_Baskets_runOf 0 = some ([(0, .aload 0), (1, .getfield 7), (4, .iload 1), (5, .iconst 6), (7, .imul), (8, .iload 2), (9, .iadd), (10, .iaload), (11, .ireturn)], 12) := by rfl
theorem B_Orders_isOpen_0 : mj_bl j_Orders_isOpen 0 = some ([(0, .aload 0), (1, .getfield 385), (4, .iload 1), (5, .ishr), (6, .iconst 1), (7, .iand), (8, .iconst 1), (9, .if_icmp .ne 16), (12, .iconst 1), (13, .goto 17)], 16) := by rfl
theorem B_Orders_isOpen_16 : mj_bl j_Orders_isOpen 16 = some ([(16, .iconst 0)], 17) := by rfl
theorem B_Orders_isOpen_17 : mj_bl j_Orders_isOpen 17 = some ([(17, .ireturn)], 18) := by rfl
theorem B_Beds_grow_0 : mj_bl j_Beds_grow 0 = some ([(0, .iconst 0), (1, .istore 2)], 2) := by rfl
theorem B_Beds_grow_2 : mj_bl j_Beds_grow 2 = some ([(2, .iload 2), (3, .aload 0), (4, .getfield 64), (7, .if_icmp .ge 78), (10, .iload 1), (11, .ifCond .eq 24), (14, .aload 0), (15, .getfield 68), (18, .iload 2), (19, .iaload), (20, .iconst 5), (21, .if_icmp .ge 43)], 24) := by rfl
theorem B_Beds_grow_24 : mj_bl j_Beds_grow 24 = some ([(24, .aload 0), (25, .getfield 66), (28, .iload 2), (29, .aload 0), (30, .getfield 66), (33, .iload 2), (34, .iaload), (35, .iconst 1), (36, .iadd), (37, .iconst 9), (39, .dup_x2), (42, .iastore)], 43) := by rfl
theorem B_Beds_grow_43 : mj_bl j_Beds_grow 43 = some ([(43, .aload 0), (44, .getfield 66), (47, .iload 2), (48, .iaload), (49, .iconst 9), (51, .if_icmp .ne 72), (54, .aload 0), (55, .getfield 67), (58, .iload 2), (59, .aload 0), (60, .getfield 67), (63, .iload 2), (64, .iaload), (65, .iconst 1), (66, .isub), (67, .iconst 1), (68, .dup_x1), (71, .iastore)], 72) := by rfl
theorem B_Beds_grow_72 : mj_bl j_Beds_grow 72 = some ([(72, .iinc 2 (1)), (75, .goto 2)], 78) := by rfl
theorem B_Beds_grow_78 : mj_bl j_Beds_grow 78 = some ([(78, .return_)], 79) := by rfl
theorem B_Orders_shut_0 : mj_bl j_Orders_shut 0 = some ([(0, .aload 0), (1, .dup), (2, .getfield 385), (5, .iconst 1), (6, .iload 1), (7, .ishl), (8, .iconst (-1)), (9, .ixor), (10, .iand), (11, .putfield 385), (14, .return_)], 15) := by rfl
theorem B_Log_add_0 : mj_bl j_Log_add 0 = some ([(0, .aload 0), (1, .getfield 320), (4, .iconst 60), (6, .if_icmp .ne 35), (9, .aload 0), (10, .getfield 321), (13, .iconst 4), (14, .aload 0), (15, .getfield 321), (18, .iconst 0), (19, .iconst 236), (22, .dup2_x1), (25, .aload 0), (26, .dup), (27, .getfield 320), (30, .iconst 1), (31, .isub), (32, .putfield 320)], 35) := by rfl
theorem B_Log_add_35 : mj_bl j_Log_add 35 = some ([(35, .aload 0), (36, .getfield 320), (39, .iconst 4), (40, .imul), (41, .istore 5), (43, .aload 0), (44, .getfield 321), (47, .iload 5), (49, .iload 1), (50, .iastore), (51, .aload 0), (52, .getfield 321), (55, .iload 5), (57, .iconst 1), (58, .iadd), (59, .iload 2), (60, .iastore), (61, .aload 0), (62, .getfield 321), (65, .iload 5), (67, .iconst 2), (68, .iadd), (69, .iload 3), (70, .iastore), (71, .aload 0), (72, .getfield 321), (75, .iload 5), (77, .iconst 3), (78, .iadd), (79, .iload 4), (81, .iastore), (82, .aload 0), (83, .dup), (84, .getfield 320), (87, .iconst 1), (88, .iadd), (89, .putfield 320), (92, .return_)], 93) := by rfl
theorem B_Beds_feetCut_0 : mj_bl j_Beds_feetCut 0 = some ([(0, .aload 0), (1, .getfield 66), (4, .iload 1), (5, .iaload), (6, .istore 4), (8, .iconst 0), (9, .istore 5), (11, .iconst 0), (12, .istore 6)], 14) := by rfl
theorem B_Beds_feetCut_14 : mj_bl j_Beds_feetCut 14 = some ([(14, .iload 6), (16, .iload 2), (17, .if_icmp .ge 71), (20, .iload 4), (22, .iconst 1), (23, .iadd), (24, .iconst 9), (26, .dup_x2), (29, .istore 4), (31, .iload 3), (32, .iload 6), (34, .ishr), (35, .iconst 1), (36, .iand), (37, .iconst 1), (38, .if_icmp .ne 65), (41, .iload 5), (43, .iconst 2), (44, .aload 0), (45, .getfield 67), (48, .iload 1), (49, .iaload), (50, .imul), (51, .iload 4), (53, .iconst 6), (55, .dup_x2), (58, .imul), (59, .iadd), (60, .istore 5), (62, .iconst 0), (63, .istore 4)], 65) := by rfl
theorem B_Beds_feetCut_65 : mj_bl j_Beds_feetCut 65 = some ([(65, .iinc 6 (1)), (68, .goto 14)], 71) := by rfl
theorem B_Beds_feetCut_71 : mj_bl j_Beds_feetCut 71 = some ([(71, .iload 5), (73, .ireturn)], 74) := by rfl
theorem B_JInt_bitCount_0 : mj_bl j_JInt_bitCount 0 = some ([(0, .iload 0), (1, .iload 0), (2, .iconst 1), (3, .iushr), (4, .iconst 1431655765), (7, .iand), (8, .isub), (9, .istore 0), (10, .iload 0), (11, .iconst 858993459), (14, .iand), (15, .iload 0), (16, .iconst 2), (17, .iushr), (18, .iconst 858993459), (21, .iand), (22, .iadd), (23, .istore 0), (24, .iload 0), (25, .iload 0), (26, .iconst 4), (27, .iushr), (28, .iadd), (29, .iconst 252645135), (32, .iand), (33, .istore 0), (34, .iload 0), (35, .iload 0), (36, .iconst 8), (38, .iushr), (39, .iadd), (40, .istore 0), (41, .iload 0), (42, .iload 0), (43, .iconst 16), (45, .iushr), (46, .iadd), (47, .istore 0), (48, .iload 0), (49, .iconst 63), (51, .iand), (52, .ireturn)], 53) := by rfl
theorem B_Beds_bestCuts_0 : mj_bl j_Beds_bestCuts 0 = some ([(0, .iconst 0), (1, .istore 3), (2, .iconst 1), (3, .istore 4)], 5) := by rfl
theorem B_Beds_bestCuts_5 : mj_bl j_Beds_bestCuts 5 = some ([(5, .iload 4), (7, .iconst 1), (8, .iload 2), (9, .ishl), (10, .if_icmp .ge 62), (13, .aload 0), (14, .iload 1), (15, .iload 2), (16, .iload 4), (18, .invokevirtual 31988771), (21, .aload 0), (22, .iload 1), (23, .iload 2), (24, .iload 3), (25, .invokevirtual 31988771), (28, .isub), (29, .istore 5), (31, .iload 5), (33, .ifCond .gt 53), (36, .iload 5), (38, .ifCond .ne 56), (41, .iload 4), (43, .invokestatic 50464193), (46, .iload 3), (47, .invokestatic 50464193), (50, .if_icmp .ge 56)], 53) := by rfl
theorem B_Beds_bestCuts_53 : mj_bl j_Beds_bestCuts 53 = some ([(53, .iload 4), (55, .istore 3)], 56) := by rfl
theorem B_Beds_bestCuts_56 : mj_bl j_Beds_bestCuts 56 = some ([(56, .iinc 4 (1)), (59, .goto 5)], 62) := by rfl
theorem B_Beds_bestCuts_62 : mj_bl j_Beds_bestCuts 62 = some ([(62, .iload 3), (63, .ireturn)], 64) := by rfl
theorem B_Baskets_buyersAt_0 : mj_bl j_Baskets_buyersAt 0 = some ([(0, .iconst 0), (1, .istore 3), (2, .iconst 0), (3, .istore 4)], 5) := by rfl
theorem B_Baskets_buyersAt_5 : mj_bl j_Baskets_buyersAt 5 = some ([(5, .iload 4), (7, .aload 0), (8, .getfield 0), (11, .if_icmp .ge 45), (14, .aload 0), (15, .getfield 3), (18, .iload 4), (20, .iaload), (21, .iload 2), (22, .if_icmp .ne 39), (25, .aload 0), (26, .getfield 4), (29, .iload 4), (31, .iaload), (32, .iload 1), (33, .if_icmp .lt 39), (36, .iinc 3 (1))], 39) := by rfl
theorem B_Baskets_buyersAt_39 : mj_bl j_Baskets_buyersAt 39 = some ([(39, .iinc 4 (1)), (42, .goto 5)], 45) := by rfl
theorem B_Baskets_buyersAt_45 : mj_bl j_Baskets_buyersAt 45 = some ([(45, .iload 3), (46, .ireturn)], 47) := by rfl
theorem B_Baskets_bestPrice_0 : mj_bl j_Baskets_bestPrice 0 = some ([(0, .iconst 0), (1, .istore 2), (2, .iconst 0), (3, .istore 3), (4, .iconst 0), (5, .istore 4)], 7) := by rfl
theorem B_Baskets_bestPrice_7 : mj_bl j_Baskets_bestPrice 7 = some ([(7, .iload 4), (9, .iconst 99), (11, .if_icmp .gt 44), (14, .iload 4), (16, .aload 0), (17, .iload 4), (19, .iload 1), (20, .invokevirtual 31069186), (23, .imul), (24, .istore 5), (26, .iload 5), (28, .iload 3), (29, .if_icmp .le 38), (32, .iload 4), (34, .istore 2), (35, .iload 5), (37, .istore 3)], 38) := by rfl
theorem B_Baskets_bestPrice_38 : mj_bl j_Baskets_bestPrice 38 = some ([(38, .iinc 4 (1)), (41, .goto 7)], 44) := by rfl
theorem B_Baskets_bestPrice_44 : mj_bl j_Baskets_bestPrice 44 = some ([(44, .iload 2), (45, .ireturn)], 46) := by rfl
theorem B_Beds_twinPairs_0 : mj_bl j_Beds_twinPairs 0 = some ([(0, .iconst 0), (1, .istore 1), (2, .iconst 0), (3, .istore 2)], 4) := by rfl
theorem B_Beds_twinPairs_4 : mj_bl j_Beds_twinPairs 4 = some ([(4, .iload 2), (5, .aload 0), (6, .getfield 64), (9, .if_icmp .ge 69), (12, .iload 2), (13, .iconst 1), (14, .iadd), (15, .istore 3)], 16) := by rfl
theorem B_Beds_twinPairs_16 : mj_bl j_Beds_twinPairs 16 = some ([(16, .iload 3), (17, .aload 0), (18, .getfield 64), (21, .if_icmp .ge 63), (24, .aload 0), (25, .getfield 65), (28, .iload 2), (29, .iaload), (30, .aload 0), (31, .getfield 65), (34, .iload 3), (35, .iaload), (36, .if_icmp .ne 57), (39, .aload 0), (40, .getfield 66), (43, .iload 2), (44, .iaload), (45, .aload 0), (46, .getfield 66), (49, .iload 3), (50, .iaload), (51, .if_icmp .ne 57), (54, .iinc 1 (1))], 57) := by rfl
theorem B_Beds_twinPairs_57 : mj_bl j_Beds_twinPairs 57 = some ([(57, .iinc 3 (1)), (60, .goto 16)], 63) := by rfl
theorem B_Beds_twinPairs_63 : mj_bl j_Beds_twinPairs 63 = some ([(63, .iinc 2 (1)), (66, .goto 4)], 69) := by rfl
theorem B_Beds_twinPairs_69 : mj_bl j_Beds_twinPairs 69 = some ([(69, .iload 1), (70, .ireturn)], 71) := by rfl
theorem B_Beds_ofSort_0 : mj_bl j_Beds_ofSort 0 = some ([(0, .iconst 0), (1, .istore 2), (2, .iconst 0), (3, .istore 3)], 4) := by rfl
theorem B_Beds_ofSort_4 : mj_bl j_Beds_ofSort 4 = some ([(4, .iload 3), (5, .aload 0), (6, .getfield 64), (9, .if_icmp .ge 34), (12, .aload 0), (13, .getfield 65), (16, .iload 3), (17, .iaload), (18, .iload 1), (19, .if_icmp .ne 28), (22, .iload 2), (23, .iconst 1), (24, .iload 3), (25, .ishl), (26, .ior), (27, .istore 2)], 28) := by rfl
theorem B_Beds_ofSort_28 : mj_bl j_Beds_ofSort 28 = some ([(28, .iinc 3 (1)), (31, .goto 4)], 34) := by rfl
theorem B_Beds_ofSort_34 : mj_bl j_Beds_ofSort 34 = some ([(34, .iload 2), (35, .ireturn)], 36) := by rfl
theorem B_Beds_stoolsAhead_0 : mj_bl j_Beds_stoolsAhead 0 = some ([(0, .iconst 1), (1, .iconst 9), (3, .aload 0), (4, .getfield 66), (7, .iload 1), (8, .iaload), (9, .isub), (10, .dup_x1), (13, .istore 3), (14, .iconst 0), (15, .iload 2), (16, .iconst 1), (17, .iadd), (18, .iload 3), (19, .isub), (20, .dup_x1), (23, .istore 4), (25, .iconst 1), (26, .aload 0), (27, .getfield 67), (30, .iload 1), (31, .iaload), (32, .iload 4), (34, .isub), (35, .dup_x1), (38, .ireturn)], 39) := by rfl
theorem B_Log_cellOf_0 : mj_bl j_Log_cellOf 0 = some ([(0, .iload 1), (1, .ifCond .lt 12), (4, .iload 1), (5, .aload 0), (6, .getfield 320), (9, .if_icmp .lt 14)], 12) := by rfl
theorem B_Log_cellOf_12 : mj_bl j_Log_cellOf 12 = some ([(12, .iconst (-1)), (13, .ireturn)], 14) := by rfl
theorem B_Log_cellOf_14 : mj_bl j_Log_cellOf 14 = some ([(14, .aload 0), (15, .getfield 321), (18, .aload 0), (19, .getfield 320), (22, .iconst 1), (23, .isub), (24, .iload 1), (25, .isub), (26, .iconst 4), (27, .imul), (28, .iload 2), (29, .iadd), (30, .iaload), (31, .ireturn)], 32) := by rfl
theorem B_Log_isCut_0 : mj_bl j_Log_isCut 0 = some ([(0, .aload 0), (1, .iload 1), (2, .iconst 1), (3, .invokevirtual 39193762), (6, .iload 2), (7, .if_icmp .ne 23), (10, .aload 0), (11, .iload 1), (12, .iconst 2), (13, .invokevirtual 39193762), (16, .ifCond .ne 23), (19, .iconst 1), (20, .goto 24)], 23) := by rfl
theorem B_Log_isCut_23 : mj_bl j_Log_isCut 23 = some ([(23, .iconst 0)], 24) := by rfl
theorem B_Log_isCut_24 : mj_bl j_Log_isCut 24 = some ([(24, .ireturn)], 25) := by rfl
theorem B_Log_latestCut_0 : mj_bl j_Log_latestCut 0 = some ([(0, .iconst 0), (1, .istore 2)], 2) := by rfl
theorem B_Log_latestCut_2 : mj_bl j_Log_latestCut 2 = some ([(2, .iload 2), (3, .aload 0), (4, .getfield 320), (7, .if_icmp .ge 32), (10, .aload 0), (11, .iload 2), (12, .iload 1), (13, .invokevirtual 39390370), (16, .ifCond .eq 26), (19, .aload 0), (20, .iload 2), (21, .iconst 0), (22, .invokevirtual 39193762), (25, .ireturn)], 26) := by rfl
theorem B_Log_latestCut_26 : mj_bl j_Log_latestCut 26 = some ([(26, .iinc 2 (1)), (29, .goto 2)], 32) := by rfl
theorem B_Log_latestCut_32 : mj_bl j_Log_latestCut 32 = some ([(32, .iconst (-1)), (33, .ireturn)], 34) := by rfl
theorem B_Log_cutsOf_0 : mj_bl j_Log_cutsOf 0 = some ([(0, .iconst 0), (1, .istore 2), (2, .iconst 0), (3, .istore 3)], 4) := by rfl
theorem B_Log_cutsOf_4 : mj_bl j_Log_cutsOf 4 = some ([(4, .iload 3), (5, .aload 0), (6, .getfield 320), (9, .if_icmp .ge 30), (12, .aload 0), (13, .iload 3), (14, .iload 1), (15, .invokevirtual 39390370), (18, .ifCond .eq 24), (21, .iinc 2 (1))], 24) := by rfl
theorem B_Log_cutsOf_24 : mj_bl j_Log_cutsOf 24 = some ([(24, .iinc 3 (1)), (27, .goto 4)], 30) := by rfl
theorem B_Log_cutsOf_30 : mj_bl j_Log_cutsOf 30 = some ([(30, .iload 2), (31, .ireturn)], 32) := by rfl
def f_Tape_push_3 (c1 : Int32) : Nat → Int32 → lf_S → Option (lf_S)
  | 0, _, _ => none
  | n + 1, v2, s => (if v2 < 0 then some s else (if (400 : Int32) ≤ (s.1 1 1) then some s else lf_ck (s.1 1 1) 400 (fun k2 => lf_lt (lf_w s 2 k2 ((lf_us c1 v2) &&& (255 : Int32))) (fun s3 => lf_lt (lf_w s3 1 1 ((s3.1 1 1) + (1 : Int32))) (fun s4 => lf_lt (v2 + (-8 : Int32)) (fun y5 => f_Tape_push_3 c1 n y5 s4))))))
def f_Tape_push (x1 : Int32) (s : lf_S) : Option (lf_S) := lf_lt (24 : Int32) (fun y1 => (f_Tape_push_3 x1 5000 y1 s).bind (fun p6 => some p6))
def f_Beds_copy (b : Nat) (a1 : Nat) (s : lf_S) : Option (lf_S) := lf_lt (lf_w s b 0 (s.1 a1 0)) (fun s1 => lf_cpk (0 : Int32) (0 : Int32) (6 : Int32) 6 6 (fun k3 k4 k5 => lf_lt (lf_cp s1 (a1 + 1) k3 (b + 1) k4 k5) (fun s2 => lf_cpk (0 : Int32) (0 : Int32) (6 : Int32) 6 6 (fun k7 k8 k9 => lf_lt (lf_cp s2 (a1 + 2) k7 (b + 2) k8 k9) (fun s6 => lf_cpk (0 : Int32) (0 : Int32) (6 : Int32) 6 6 (fun k11 k12 k13 => lf_lt (lf_cp s6 (a1 + 3) k11 (b + 3) k12 k13) (fun s10 => lf_cpk (0 : Int32) (0 : Int32) (6 : Int32) 6 6 (fun k15 k16 k17 => lf_lt (lf_cp s10 (a1 + 4) k15 (b + 4) k16 k17) (fun s14 => some s14)))))))))
def f_Baskets_copy (b : Nat) (a1 : Nat) (s : lf_S) : Option (lf_S) := lf_lt (lf_w s b 0 (s.1 a1 0)) (fun s1 => lf_cpk (0 : Int32) (0 : Int32) (5 : Int32) 5 5 (fun k3 k4 k5 => lf_lt (lf_cp s1 (a1 + 1) k3 (b + 1) k4 k5) (fun s2 => lf_cpk (0 : Int32) (0 : Int32) (5 : Int32) 5 5 (fun k7 k8 k9 => lf_lt (lf_cp s2 (a1 + 2) k7 (b + 2) k8 k9) (fun s6 => lf_cpk (0 : Int32) (0 : Int32) (5 : Int32) 5 5 (fun k11 k12 k13 => lf_lt (lf_cp s6 (a1 + 3) k11 (b + 3) k12 k13) (fun s10 => lf_cpk (0 : Int32) (0 : Int32) (5 : Int32) 5 5 (fun k15 k16 k17 => lf_lt (lf_cp s10 (a1 + 4) k15 (b + 4) k16 k17) (fun s14 => lf_cpk (0 : Int32) (0 : Int32) (5 : Int32) 5 5 (fun k19 k20 k21 => lf_lt (lf_cp s14 (a1 + 5) k19 (b + 5) k20 k21) (fun s18 => lf_cpk (0 : Int32) (0 : Int32) (5 : Int32) 5 5 (fun k23 k24 k25 => lf_lt (lf_cp s18 (a1 + 6) k23 (b + 6) k24 k25) (fun s22 => lf_cpk (0 : Int32) (0 : Int32) (30 : Int32) 30 30 (fun k27 k28 k29 => lf_lt (lf_cp s22 (a1 + 7) k27 (b + 7) k28 k29) (fun s26 => lf_cpk (0 : Int32) (0 : Int32) (5 : Int32) 5 5 (fun k31 k32 k33 => lf_lt (lf_cp s26 (a1 + 8) k31 (b + 8) k32 k33) (fun s30 => some s30)))))))))))))))))
def f_Hands_copy (b : Nat) (a1 : Nat) (s : lf_S) : Option (lf_S) := lf_lt (lf_w s b 0 (s.1 a1 0)) (fun s1 => lf_cpk (0 : Int32) (0 : Int32) (5 : Int32) 5 5 (fun k3 k4 k5 => lf_lt (lf_cp s1 (a1 + 1) k3 (b + 1) k4 k5) (fun s2 => lf_cpk (0 : Int32) (0 : Int32) (5 : Int32) 5 5 (fun k7 k8 k9 => lf_lt (lf_cp s2 (a1 + 2) k7 (b + 2) k8 k9) (fun s6 => some s6)))))
def f_Orders_copy (b : Nat) (a1 : Nat) (s : lf_S) : Option (lf_S) := lf_lt (lf_w s b 0 (s.1 a1 0)) (fun s1 => lf_lt (lf_w s1 b 1 (s1.1 a1 1)) (fun s2 => lf_cpk (0 : Int32) (0 : Int32) (6 : Int32) 6 6 (fun k4 k5 k6 => lf_lt (lf_cp s2 (a1 + 1) k4 (b + 1) k5 k6) (fun s3 => lf_cpk (0 : Int32) (0 : Int32) (6 : Int32) 6 6 (fun k8 k9 k10 => lf_lt (lf_cp s3 (a1 + 2) k8 (b + 2) k9 k10) (fun s7 => some s7))))))
def f_Log_copy (b : Nat) (a1 : Nat) (s : lf_S) : Option (lf_S) := lf_lt (lf_w s b 0 (s.1 a1 0)) (fun s1 => lf_cpk (0 : Int32) (0 : Int32) (240 : Int32) 240 240 (fun k3 k4 k5 => lf_lt (lf_cp s1 (a1 + 1) k3 (b + 1) k4 k5) (fun s2 => some s2)))
def f_Tape_moveTo_5 : Nat → lf_S → Option (lf_S)
  | 0, _ => none
  | n + 1, s => (if (s.1 1 1) ≤ (s.1 1 3) then some s else lf_ck (s.1 1 3) 400 (fun k2 => (if (s.1 2 k2) = (32 : Int32) then lf_lt (lf_w s 1 3 ((s.1 1 3) + (1 : Int32))) (fun s3 => f_Tape_moveTo_5 n s3) else some s)))
def f_Tape_moveTo (x1 : Int32) (s : lf_S) : Option (lf_S) := lf_lt (lf_w s 1 3 x1) (fun s1 => (f_Tape_moveTo_5 5000 s1).bind (fun p4 => some p4))
def f_Tape_start (s : lf_S) : Option (lf_S) := lf_lt (lf_w s 1 2 (-1 : Int32)) (fun s1 => (f_Tape_moveTo (0 : Int32) s1).bind (fun p2 => some p2))
def f_Tape_failed (s : lf_S) : Option Bool := (if (s.1 1 2) = (-1 : Int32) then some false else some true)
def f_Tape_isSign (x1 : Int32) (s : lf_S) : Option Bool := (f_Tape_failed s).bind (fun p1 => (if p1 = true then some false else (if (s.1 1 1) ≤ (s.1 1 3) then some false else lf_ck (s.1 1 3) 400 (fun k2 => (if (s.1 2 k2) = x1 then some true else some false)))))
def f_Tape_takeSign (x1 : Int32) (s : lf_S) : Option (Bool × lf_S) := (f_Tape_isSign x1 s).bind (fun p1 => lf_lt p1 (fun e2 => (if e2 = true then (f_Tape_moveTo ((s.1 1 3) + (1 : Int32)) s).bind (fun p3 => some (e2, p3)) else some (e2, s))))
def f_Tape_fail (s : lf_S) : Option (lf_S) := (if (s.1 1 2) = (-1 : Int32) then lf_lt (lf_w s 1 2 (s.1 1 3)) (fun s1 => some s1) else some s)
def f_Tape_lineComes (x1 : Int32) (x2 : Int32) (s : lf_S) : Option (Bool × lf_S) := (f_Tape_failed s).bind (fun p1 => (if p1 = true then some (false, s) else (if (s.1 1 3) < (s.1 1 1) then (if x1 = 0 then some (true, s) else (f_Tape_takeSign (59 : Int32) s).bind (fun p2 => (if p2.1 = true then (if x1 < x2 then (f_Tape_failed p2.2).bind (fun p5 => (if p5 = true then some (false, p2.2) else some (true, p2.2))) else (f_Tape_fail p2.2).bind (fun p6 => (f_Tape_failed p6).bind (fun p7 => (if p7 = true then some (false, p6) else some (true, p6))))) else (f_Tape_fail p2.2).bind (fun p3 => (f_Tape_failed p3).bind (fun p4 => (if p4 = true then some (false, p3) else some (true, p3))))))) else some (false, s))))
def f_Tape_isWord_33 (t1 : Nat) (c2 : Int32) : Nat → Int32 → lf_S → Option ((Unit) ⊕ (Bool))
  | 0, _, _ => none
  | n + 1, v3, s => (if c2 ≤ v3 then some (Sum.inl ()) else lf_ck v3 400 (fun k3 => lf_ck (v3 - (s.1 1 3)) (mj_tx t1).length (fun k4 => (if (s.1 2 k3) = ((mj_tx t1).getD k4 0) then lf_lt (v3 + (1 : Int32)) (fun y5 => f_Tape_isWord_33 t1 c2 n y5 s) else some (Sum.inr (false))))))
def f_Tape_isWord (t1 : Nat) (s : lf_S) : Option Bool := lf_lt ((s.1 1 3) + (nI (mj_tx t1).length)) (fun y1 => (if (s.1 1 2) = (-1 : Int32) then (if y1 ≤ (s.1 1 1) then lf_lt (s.1 1 3) (fun y2 => (f_Tape_isWord_33 t1 y1 5000 y2 s).bind (fun p6 => Sum.elim (fun q7 => (if y1 = (s.1 1 1) then some true else lf_ck y1 400 (fun k9 => (if (s.1 2 k9) < (97 : Int32) then some true else lf_ck y1 400 (fun k10 => (if (s.1 2 k10) ≤ (122 : Int32) then some false else some true)))))) (fun q8 => some q8) p6)) else some false) else some false))
def f_Tape_takeWord (t1 : Nat) (s : lf_S) : Option (Bool × lf_S) := (f_Tape_isWord t1 s).bind (fun p1 => lf_lt p1 (fun e2 => (if e2 = true then (f_Tape_moveTo ((s.1 1 3) + (nI (mj_tx t1).length)) s).bind (fun p3 => some (e2, p3)) else some (e2, s))))
def f_Tape_needWord (t1 : Nat) (s : lf_S) : Option (lf_S) := (f_Tape_takeWord t1 s).bind (fun p1 => (if p1.1 = true then some p1.2 else (f_Tape_fail p1.2).bind (fun p2 => some p2)))
def f_Tape_isDigit (x0 : Int32) : Option Bool := (if x0 < (48 : Int32) then some false else (if (57 : Int32) < x0 then some false else some true))
def f_Tape_takeNumber_8 (c1 : Int32) (c2 : Int32) : Nat → Int32 → Int32 → lf_S → Option (Int32 × Int32 × lf_S)
  | 0, _, _, _ => none
  | n + 1, v3, v4, s => (if (s.1 1 1) ≤ v3 then some (v3, v4, s) else (if (3 : Int32) < (v3 - (s.1 1 3)) then some (v3, v4, s) else lf_ck v3 400 (fun k3 => (f_Tape_isDigit (s.1 2 k3)).bind (fun p4 => (if p4 = true then lf_ck v3 400 (fun k5 => lf_lt ((((10 : Int32) * v4) + (s.1 2 k5)) - (48 : Int32)) (fun y6 => lf_lt (v3 + (1 : Int32)) (fun y7 => f_Tape_takeNumber_8 c1 c2 n y7 y6 s))) else some (v3, v4, s))))))
def f_Tape_takeNumber (x1 : Int32) (x2 : Int32) (s : lf_S) : Option (Int32 × lf_S) := lf_lt (s.1 1 3) (fun y1 => lf_lt (0 : Int32) (fun y2 => (f_Tape_takeNumber_8 x1 x2 5000 y1 y2 s).bind (fun p8 => (if p8.1 = (p8.2.2.1 1 3) then (f_Tape_fail p8.2.2).bind (fun p9 => (f_Tape_failed p9).bind (fun p10 => (if p10 = true then some (x1, p9) else (f_Tape_moveTo p8.1 p9).bind (fun p11 => some (p8.2.1, p11))))) else (if (3 : Int32) < (p8.1 - (p8.2.2.1 1 3)) then (f_Tape_fail p8.2.2).bind (fun p12 => (f_Tape_failed p12).bind (fun p13 => (if p13 = true then some (x1, p12) else (f_Tape_moveTo p8.1 p12).bind (fun p14 => some (p8.2.1, p14))))) else (if p8.2.1 < x1 then (f_Tape_fail p8.2.2).bind (fun p15 => (f_Tape_failed p15).bind (fun p16 => (if p16 = true then some (x1, p15) else (f_Tape_moveTo p8.1 p15).bind (fun p17 => some (p8.2.1, p17))))) else (if p8.2.1 ≤ x2 then (f_Tape_failed p8.2.2).bind (fun p18 => (if p18 = true then some (x1, p8.2.2) else (f_Tape_moveTo p8.1 p8.2.2).bind (fun p19 => some (p8.2.1, p19)))) else (f_Tape_fail p8.2.2).bind (fun p20 => (f_Tape_failed p20).bind (fun p21 => (if p21 = true then some (x1, p20) else (f_Tape_moveTo p8.1 p20).bind (fun p22 => some (p8.2.1, p22))))))))))))
def f_Beds_add (b : Nat) (x1 : Int32) (x2 : Int32) (x3 : Int32) (x4 : Int32) (s : lf_S) : Option (lf_S) := (if (6 : Int32) ≤ (s.1 b 0) then some s else lf_ck (s.1 b 0) 6 (fun k1 => lf_lt (lf_w s (b + 1) k1 x1) (fun s2 => lf_ck (s2.1 b 0) 6 (fun k3 => lf_lt (lf_w s2 (b + 2) k3 x2) (fun s4 => lf_ck (s4.1 b 0) 6 (fun k5 => lf_lt (lf_w s4 (b + 3) k5 x3) (fun s6 => lf_ck (s6.1 b 0) 6 (fun k7 => lf_lt (lf_w s6 (b + 4) k7 x4) (fun s8 => lf_lt (lf_w s8 b 0 ((s8.1 b 0) + (1 : Int32))) (fun s9 => some s9))))))))))
def f_Baskets_beginWeave (b : Nat) (x1 : Int32) (s : lf_S) : Option (lf_S) := lf_ck x1 5 (fun k1 => lf_lt (lf_w s (b + 5) k1 (0 : Int32)) (fun s2 => lf_ck x1 5 (fun k3 => lf_lt (lf_w s2 (b + 6) k3 (0 : Int32)) (fun s4 => lf_ck x1 5 (fun k5 => lf_lt (lf_w s4 (b + 8) k5 (0 : Int32)) (fun s6 => some s6))))))
def f_Tape_isNumber (s : lf_S) : Option Bool := (f_Tape_failed s).bind (fun p1 => (if p1 = true then some false else (if (s.1 1 1) ≤ (s.1 1 3) then some false else lf_ck (s.1 1 3) 400 (fun k2 => (f_Tape_isDigit (s.1 2 k2)).bind (fun p3 => (if p3 = true then some true else some false))))))
def f_Baskets_addRun (b : Nat) (x1 : Int32) (x2 : Int32) (s : lf_S) : Option (lf_S) := lf_ck x1 5 (fun k1 => lf_lt (s.1 (b + 5) k1) (fun y2 => (if y2 < (6 : Int32) then (if (y2 % (2 : Int32)) = 0 then lf_ck x1 5 (fun k11 => lf_ck x1 5 (fun k12 => lf_ck x1 5 (fun k13 => lf_lt (lf_w s (b + 8) k13 ((s.1 (b + 8) k11) ||| ((((1 : Int32) <<< (x2 &&& 31)) - (1 : Int32)) <<< ((s.1 (b + 6) k12) &&& 31)))) (fun s14 => lf_ck ((x1 * (6 : Int32)) + y2) 30 (fun k15 => lf_lt (lf_w s14 (b + 7) k15 x2) (fun s16 => lf_ck x1 5 (fun k17 => lf_ck x1 5 (fun k18 => lf_lt (lf_w s16 (b + 6) k18 ((s16.1 (b + 6) k17) + x2)) (fun s19 => lf_ck x1 5 (fun k20 => lf_ck x1 5 (fun k21 => lf_lt (lf_w s19 (b + 5) k21 ((s19.1 (b + 5) k20) + (1 : Int32))) (fun s22 => some s22)))))))))))) else lf_ck ((x1 * (6 : Int32)) + y2) 30 (fun k3 => lf_lt (lf_w s (b + 7) k3 x2) (fun s4 => lf_ck x1 5 (fun k5 => lf_ck x1 5 (fun k6 => lf_lt (lf_w s4 (b + 6) k6 ((s4.1 (b + 6) k5) + x2)) (fun s7 => lf_ck x1 5 (fun k8 => lf_ck x1 5 (fun k9 => lf_lt (lf_w s7 (b + 5) k9 ((s7.1 (b + 5) k8) + (1 : Int32))) (fun s10 => some s10))))))))) else some s)))
def f_Hands_add (b : Nat) (x1 : Int32) (x2 : Int32) (s : lf_S) : Option (lf_S) := (if (5 : Int32) ≤ (s.1 b 0) then some s else lf_ck (s.1 b 0) 5 (fun k1 => lf_lt (lf_w s (b + 1) k1 x1) (fun s2 => lf_ck (s2.1 b 0) 5 (fun k3 => lf_lt (lf_w s2 (b + 2) k3 x2) (fun s4 => lf_lt (lf_w s4 b 0 ((s4.1 b 0) + (1 : Int32))) (fun s5 => some s5))))))
def f_Orders_add (b : Nat) (x1 : Int32) (x2 : Int32) (s : lf_S) : Option (lf_S) := (if (6 : Int32) ≤ (s.1 b 0) then some s else lf_ck (s.1 b 0) 6 (fun k1 => lf_lt (lf_w s (b + 1) k1 x1) (fun s2 => lf_ck (s2.1 b 0) 6 (fun k3 => lf_lt (lf_w s2 (b + 2) k3 x2) (fun s4 => lf_lt (lf_w s4 b 1 ((s4.1 b 1) ||| ((1 : Int32) <<< ((s4.1 b 0) &&& 31)))) (fun s5 => lf_lt (lf_w s5 b 0 ((s5.1 b 0) + (1 : Int32))) (fun s6 => some s6)))))))
def f_Beds_partOf_4 (b : Nat) (c1 : Int32) : Nat → Int32 → Int32 → lf_S → Option (Int32)
  | 0, _, _, _ => none
  | n + 1, v2, v3, s => (if (s.1 b 0) ≤ v3 then some v2 else lf_ck v3 6 (fun k3 => lf_lt (v2 + (s.1 (b + 3) k3)) (fun y4 => lf_lt (v3 + (1 : Int32)) (fun y5 => f_Beds_partOf_4 b c1 n y4 y5 s))))
def f_Beds_partOf (b : Nat) (x1 : Int32) (s : lf_S) : Option Int32 := lf_lt (0 : Int32) (fun y1 => lf_lt (0 : Int32) (fun y2 => (f_Beds_partOf_4 b x1 5000 y1 y2 s).bind (fun p6 => (if (1 : Int32) ≤ p6 then lf_ck x1 6 (fun k7 => lf_nz p6 (some (((100 : Int32) * (s.1 (b + 3) k7)) / p6))) else some (0 : Int32)))))
def f_Baskets_needOf (b : Nat) (x1 : Int32) (s : lf_S) : Option Int32 := lf_ck x1 5 (fun k1 => lf_lt (((12 : Int32) * (s.1 (b + 3) k1)) - (2 : Int32)) (fun y2 => (if (1 : Int32) ≤ y2 then lf_ck x1 5 (fun k3 => lf_ck x1 5 (fun k4 => lf_lt (((s.1 (b + 1) k3) * (s.1 (b + 2) k4)) * (2 : Int32)) (fun y5 => lf_ck x1 5 (fun k6 => lf_nz y2 (some ((s.1 (b + 1) k6) + (((y5 + y2) - (1 : Int32)) / y2))))))) else some (0 : Int32))))
def f_Baskets_passesOver (b : Nat) (x1 : Int32) (x2 : Int32) (s : lf_S) : Option Bool := lf_ck x1 5 (fun k1 => lf_lt (s.1 (b + 6) k1) (fun y2 => (if y2 ≤ 0 then some false else lf_ck x1 5 (fun k3 => lf_nz y2 ((if (((s.1 (b + 8) k3) >>> ((x2 % y2) &&& 31)) &&& (1 : Int32)) = (1 : Int32) then some true else some false))))))
def f_Baskets_isAlikeAfter_2 (b : Nat) (c1 : Int32) (c2 : Int32) : Nat → Int32 → lf_S → Option ((Unit) ⊕ (Bool))
  | 0, _, _ => none
  | n + 1, v3, s => lf_ck c1 5 (fun k2 => (if (s.1 (b + 6) k2) ≤ v3 then some (Sum.inl ()) else (f_Baskets_passesOver b c1 v3 s).bind (fun p3 => (f_Baskets_passesOver b c1 (v3 + c2) s).bind (fun p4 => (if p3 = p4 then lf_lt (v3 + (1 : Int32)) (fun y5 => f_Baskets_isAlikeAfter_2 b c1 c2 n y5 s) else some (Sum.inr (false)))))))
def f_Baskets_isAlikeAfter (b : Nat) (x1 : Int32) (x2 : Int32) (s : lf_S) : Option Bool := lf_lt (0 : Int32) (fun y1 => (f_Baskets_isAlikeAfter_2 b x1 x2 5000 y1 s).bind (fun p6 => Sum.elim (fun q7 => some true) (fun q8 => some q8) p6))
def f_Baskets_againOf_9 (b : Nat) (c1 : Int32) (c2 : Int32) : Nat → Int32 → lf_S → Option ((Unit) ⊕ (Int32))
  | 0, _, _ => none
  | n + 1, v3, s => (if c2 ≤ v3 then some (Sum.inl ()) else lf_ck c1 5 (fun k4 => (f_Baskets_isAlikeAfter b c1 (v3 * (s.1 (b + 1) k4)) s).bind (fun p5 => (if p5 = true then some (Sum.inr (v3)) else lf_lt (v3 + (1 : Int32)) (fun y6 => f_Baskets_againOf_9 b c1 c2 n y6 s)))))
def f_Baskets_againOf (b : Nat) (x1 : Int32) (s : lf_S) : Option Int32 := lf_ck x1 5 (fun k1 => lf_lt (s.1 (b + 6) k1) (fun y2 => lf_lt (1 : Int32) (fun y3 => (f_Baskets_againOf_9 b x1 y2 5000 y3 s).bind (fun p7 => Sum.elim (fun q8 => some y2) (fun q9 => some q9) p7))))
def f_Baskets_longestAlike_12 (b : Nat) (c1 : Int32) (c2 : Int32) (c3 : Int32) (c4 : Int32) : Nat → Int32 → Int32 → Int32 → Int32 → lf_S → Option (Int32)
  | 0, _, _, _, _, _ => none
  | n + 1, v5, v6, v7, v8, s => (if c4 ≤ v8 then some v5 else (f_Baskets_passesOver b c1 (c2 + (v8 * c3)) s).bind (fun p5 => lf_lt p5 (fun e6 => (if v8 ≤ 0 then lf_lt (1 : Int32) (fun y7 => lf_lt (lf_mx v5 y7) (fun y8 => lf_lt e6 (fun e9 => lf_lt (v8 + (1 : Int32)) (fun y10 => f_Baskets_longestAlike_12 b c1 c2 c3 c4 n y8 y7 (lf_i e9) y10 s)))) else (if (lf_i e6) = v7 then lf_lt (v6 + (1 : Int32)) (fun y15 => lf_lt (lf_mx v5 y15) (fun y16 => lf_lt e6 (fun e17 => lf_lt (v8 + (1 : Int32)) (fun y18 => f_Baskets_longestAlike_12 b c1 c2 c3 c4 n y16 y15 (lf_i e17) y18 s)))) else lf_lt (1 : Int32) (fun y11 => lf_lt (lf_mx v5 y11) (fun y12 => lf_lt e6 (fun e13 => lf_lt (v8 + (1 : Int32)) (fun y14 => f_Baskets_longestAlike_12 b c1 c2 c3 c4 n y12 y11 (lf_i e13) y14 s)))))))))
def f_Baskets_longestAlike (b : Nat) (x1 : Int32) (x2 : Int32) (x3 : Int32) (x4 : Int32) (s : lf_S) : Option Int32 := lf_lt (0 : Int32) (fun y1 => lf_lt (0 : Int32) (fun y2 => lf_lt (0 : Int32) (fun y3 => lf_lt (0 : Int32) (fun y4 => (f_Baskets_longestAlike_12 b x1 x2 x3 x4 5000 y1 y2 y3 y4 s).bind (fun p19 => some p19)))))
def f_Baskets_looseOf_5 (b : Nat) (c1 : Int32) (c2 : Int32) : Nat → Int32 → Int32 → lf_S → Option (Int32)
  | 0, _, _, _ => none
  | n + 1, v3, v4, s => (if c2 ≤ v4 then some v3 else lf_ck c1 5 (fun k3 => (f_Baskets_longestAlike b c1 v4 c2 (s.1 (b + 2) k3) s).bind (fun p4 => lf_ck c1 5 (fun k5 => (if p4 = (s.1 (b + 2) k5) then lf_lt (v3 ||| ((1 : Int32) <<< (v4 &&& 31))) (fun y7 => lf_lt (v4 + (1 : Int32)) (fun y8 => f_Baskets_looseOf_5 b c1 c2 n y7 y8 s)) else lf_lt (v4 + (1 : Int32)) (fun y6 => f_Baskets_looseOf_5 b c1 c2 n v3 y6 s))))))
def f_Baskets_looseOf (b : Nat) (x1 : Int32) (x2 : Int32) (s : lf_S) : Option Int32 := lf_lt (0 : Int32) (fun y1 => lf_lt (0 : Int32) (fun y2 => (f_Baskets_looseOf_5 b x1 x2 5000 y1 y2 s).bind (fun p9 => some p9)))
def f_Baskets_floatOf (b : Nat) (x1 : Int32) (s : lf_S) : Option Int32 := lf_ck x1 5 (fun k1 => lf_ck x1 5 (fun k2 => (f_Baskets_longestAlike b x1 (0 : Int32) (1 : Int32) ((s.1 (b + 1) k1) * (s.1 (b + 2) k2)) s).bind (fun p3 => some p3)))
def f_Baskets_dropOf_4 (b : Nat) (c1 : Int32) : Nat → Int32 → Int32 → lf_S → Option (Int32)
  | 0, _, _, _ => none
  | n + 1, v2, v3, s => lf_ck c1 5 (fun k3 => (if (s.1 (b + 1) k3) ≤ v3 then some v2 else lf_ck c1 5 (fun k4 => lf_ck c1 5 (fun k5 => (f_Baskets_longestAlike b c1 v3 (s.1 (b + 1) k4) (s.1 (b + 2) k5) s).bind (fun p6 => lf_lt (lf_mx v2 p6) (fun y7 => lf_lt (v3 + (1 : Int32)) (fun y8 => f_Baskets_dropOf_4 b c1 n y7 y8 s)))))))
def f_Baskets_dropOf (b : Nat) (x1 : Int32) (s : lf_S) : Option Int32 := lf_lt (0 : Int32) (fun y1 => lf_lt (0 : Int32) (fun y2 => (f_Baskets_dropOf_4 b x1 5000 y1 y2 s).bind (fun p9 => some p9)))
def f_Baskets_isBlind_2 (b : Nat) (c1 : Int32) (c2 : Int32) : Nat → Int32 → lf_S → Option ((Unit) ⊕ (Bool))
  | 0, _, _ => none
  | n + 1, v3, s => lf_ck c1 5 (fun k2 => (if (s.1 (b + 1) k2) ≤ v3 then some (Sum.inl ()) else lf_ck c1 5 (fun k3 => lf_lt ((c2 * (s.1 (b + 1) k3)) + v3) (fun y4 => (f_Baskets_passesOver b c1 y4 s).bind (fun p5 => lf_ck c1 5 (fun k6 => (f_Baskets_passesOver b c1 (y4 - (s.1 (b + 1) k6)) s).bind (fun p7 => (if p5 = p7 then lf_lt (v3 + (1 : Int32)) (fun y8 => f_Baskets_isBlind_2 b c1 c2 n y8 s) else some (Sum.inr (false))))))))))
def f_Baskets_isBlind (b : Nat) (x1 : Int32) (x2 : Int32) (s : lf_S) : Option Bool := lf_lt (0 : Int32) (fun y1 => (f_Baskets_isBlind_2 b x1 x2 5000 y1 s).bind (fun p9 => Sum.elim (fun q10 => some true) (fun q11 => some q11) p9))
def f_Baskets_blindOf_4 (b : Nat) (c1 : Int32) : Nat → Int32 → Int32 → lf_S → Option (Int32)
  | 0, _, _, _ => none
  | n + 1, v2, v3, s => lf_ck c1 5 (fun k3 => (if (s.1 (b + 2) k3) ≤ v3 then some v2 else (f_Baskets_isBlind b c1 v3 s).bind (fun p4 => (if p4 = true then lf_lt (v2 + (1 : Int32)) (fun y6 => lf_lt (v3 + (1 : Int32)) (fun y7 => f_Baskets_blindOf_4 b c1 n y6 y7 s)) else lf_lt (v3 + (1 : Int32)) (fun y5 => f_Baskets_blindOf_4 b c1 n v2 y5 s)))))
def f_Baskets_blindOf (b : Nat) (x1 : Int32) (s : lf_S) : Option Int32 := lf_lt (0 : Int32) (fun y1 => lf_lt (1 : Int32) (fun y2 => (f_Baskets_blindOf_4 b x1 5000 y1 y2 s).bind (fun p8 => some p8)))
def f_Baskets_fitOf_2 (b : Nat) (c1 : Int32) : Nat → Int32 → lf_S → Option ((Unit) ⊕ (Int32))
  | 0, _, _ => none
  | n + 1, v2, s => (if (24 : Int32) < v2 then some (Sum.inl ()) else (f_Baskets_looseOf b c1 v2 s).bind (fun p2 => (if p2 = 0 then some (Sum.inr (v2)) else lf_lt (v2 + (1 : Int32)) (fun y3 => f_Baskets_fitOf_2 b c1 n y3 s))))
def f_Baskets_fitOf (b : Nat) (x1 : Int32) (s : lf_S) : Option Int32 := lf_lt (3 : Int32) (fun y1 => (f_Baskets_fitOf_2 b x1 5000 y1 s).bind (fun p4 => Sum.elim (fun q5 => some (-1 : Int32)) (fun q6 => some q6) p4))
def f_Baskets_runOf (b : Nat) (x1 : Int32) (x2 : Int32) (s : lf_S) : Option Int32 := lf_ck ((x1 * (6 : Int32)) + x2) 30 (fun k1 => some (s.1 (b + 7) k1))
def f_Orders_isOpen (b : Nat) (x1 : Int32) (s : lf_S) : Option Bool := (if (((s.1 b 1) >>> (x1 &&& 31)) &&& (1 : Int32)) = (1 : Int32) then some true else some false)
def f_Beds_grow_2 (b : Nat) (c1 : Int32) : Nat → Int32 → lf_S → Option (lf_S)
  | 0, _, _ => none
  | n + 1, v2, s => (if (s.1 b 0) ≤ v2 then some s else (if c1 = 0 then lf_ck v2 6 (fun k2 => lf_ck v2 6 (fun k3 => lf_lt (lf_w s (b + 2) k3 (lf_mn ((s.1 (b + 2) k2) + (1 : Int32)) (9 : Int32))) (fun s4 => lf_ck v2 6 (fun k5 => (if (s4.1 (b + 2) k5) = (9 : Int32) then lf_ck v2 6 (fun k7 => lf_ck v2 6 (fun k8 => lf_lt (lf_w s4 (b + 3) k8 (lf_mx ((s4.1 (b + 3) k7) - (1 : Int32)) (1 : Int32))) (fun s9 => lf_lt (v2 + (1 : Int32)) (fun y10 => f_Beds_grow_2 b c1 n y10 s9)))) else lf_lt (v2 + (1 : Int32)) (fun y6 => f_Beds_grow_2 b c1 n y6 s4)))))) else lf_ck v2 6 (fun k11 => (if (5 : Int32) ≤ (s.1 (b + 4) k11) then lf_ck v2 6 (fun k12 => (if (s.1 (b + 2) k12) = (9 : Int32) then lf_ck v2 6 (fun k14 => lf_ck v2 6 (fun k15 => lf_lt (lf_w s (b + 3) k15 (lf_mx ((s.1 (b + 3) k14) - (1 : Int32)) (1 : Int32))) (fun s16 => lf_lt (v2 + (1 : Int32)) (fun y17 => f_Beds_grow_2 b c1 n y17 s16)))) else lf_lt (v2 + (1 : Int32)) (fun y13 => f_Beds_grow_2 b c1 n y13 s))) else lf_ck v2 6 (fun k18 => lf_ck v2 6 (fun k19 => lf_lt (lf_w s (b + 2) k19 (lf_mn ((s.1 (b + 2) k18) + (1 : Int32)) (9 : Int32))) (fun s20 => lf_ck v2 6 (fun k21 => (if (s20.1 (b + 2) k21) = (9 : Int32) then lf_ck v2 6 (fun k23 => lf_ck v2 6 (fun k24 => lf_lt (lf_w s20 (b + 3) k24 (lf_mx ((s20.1 (b + 3) k23) - (1 : Int32)) (1 : Int32))) (fun s25 => lf_lt (v2 + (1 : Int32)) (fun y26 => f_Beds_grow_2 b c1 n y26 s25)))) else lf_lt (v2 + (1 : Int32)) (fun y22 => f_Beds_grow_2 b c1 n y22 s20))))))))))
def f_Beds_grow (b : Nat) (x1 : Int32) (s : lf_S) : Option (lf_S) := lf_lt (0 : Int32) (fun y1 => (f_Beds_grow_2 b x1 5000 y1 s).bind (fun p27 => some p27))
def f_Orders_shut (b : Nat) (x1 : Int32) (s : lf_S) : Option (lf_S) := lf_lt (lf_w s b 1 ((s.1 b 1) &&& (((1 : Int32) <<< (x1 &&& 31)) ^^^ (-1 : Int32)))) (fun s1 => some s1)
def f_Log_add (b : Nat) (x1 : Int32) (x2 : Int32) (x3 : Int32) (x4 : Int32) (s : lf_S) : Option (lf_S) := (if (s.1 b 0) = (60 : Int32) then lf_cpk (4 : Int32) (0 : Int32) (236 : Int32) 240 240 (fun k12 k13 k14 => lf_lt (lf_cp s (b + 1) k12 (b + 1) k13 k14) (fun s11 => lf_lt (lf_w s11 b 0 ((s11.1 b 0) - (1 : Int32))) (fun s15 => lf_lt ((s15.1 b 0) * (4 : Int32)) (fun y16 => lf_ck y16 240 (fun k17 => lf_lt (lf_w s15 (b + 1) k17 x1) (fun s18 => lf_ck (y16 + (1 : Int32)) 240 (fun k19 => lf_lt (lf_w s18 (b + 1) k19 x2) (fun s20 => lf_ck (y16 + (2 : Int32)) 240 (fun k21 => lf_lt (lf_w s20 (b + 1) k21 x3) (fun s22 => lf_ck (y16 + (3 : Int32)) 240 (fun k23 => lf_lt (lf_w s22 (b + 1) k23 x4) (fun s24 => lf_lt (lf_w s24 b 0 ((s24.1 b 0) + (1 : Int32))) (fun s25 => some s25))))))))))))) else lf_lt ((s.1 b 0) * (4 : Int32)) (fun y1 => lf_ck y1 240 (fun k2 => lf_lt (lf_w s (b + 1) k2 x1) (fun s3 => lf_ck (y1 + (1 : Int32)) 240 (fun k4 => lf_lt (lf_w s3 (b + 1) k4 x2) (fun s5 => lf_ck (y1 + (2 : Int32)) 240 (fun k6 => lf_lt (lf_w s5 (b + 1) k6 x3) (fun s7 => lf_ck (y1 + (3 : Int32)) 240 (fun k8 => lf_lt (lf_w s7 (b + 1) k8 x4) (fun s9 => lf_lt (lf_w s9 b 0 ((s9.1 b 0) + (1 : Int32))) (fun s10 => some s10)))))))))))
def f_Beds_feetCut_14 (b : Nat) (c1 : Int32) (c2 : Int32) (c3 : Int32) : Nat → Int32 → Int32 → Int32 → lf_S → Option (Int32)
  | 0, _, _, _, _ => none
  | n + 1, v4, v5, v6, s => (if c2 ≤ v6 then some v5 else lf_lt (lf_mn (v4 + (1 : Int32)) (9 : Int32)) (fun y5 => (if ((c3 >>> (v6 &&& 31)) &&& (1 : Int32)) = (1 : Int32) then lf_ck c1 6 (fun k7 => lf_lt (v5 + (((2 : Int32) * (s.1 (b + 3) k7)) * (lf_mn y5 (6 : Int32)))) (fun y8 => lf_lt (0 : Int32) (fun y9 => lf_lt (v6 + (1 : Int32)) (fun y10 => f_Beds_feetCut_14 b c1 c2 c3 n y9 y8 y10 s)))) else lf_lt (v6 + (1 : Int32)) (fun y6 => f_Beds_feetCut_14 b c1 c2 c3 n y5 v5 y6 s))))
def f_Beds_feetCut (b : Nat) (x1 : Int32) (x2 : Int32) (x3 : Int32) (s : lf_S) : Option Int32 := lf_ck x1 6 (fun k1 => lf_lt (s.1 (b + 2) k1) (fun y2 => lf_lt (0 : Int32) (fun y3 => lf_lt (0 : Int32) (fun y4 => (f_Beds_feetCut_14 b x1 x2 x3 5000 y2 y3 y4 s).bind (fun p11 => some p11)))))
def f_JInt_bitCount (x0 : Int32) : Option Int32 := lf_lt (x0 - ((lf_us x0 (1 : Int32)) &&& (1431655765 : Int32))) (fun y1 => lf_lt ((y1 &&& (858993459 : Int32)) + ((lf_us y1 (2 : Int32)) &&& (858993459 : Int32))) (fun y2 => lf_lt ((y2 + (lf_us y2 (4 : Int32))) &&& (252645135 : Int32)) (fun y3 => lf_lt (y3 + (lf_us y3 (8 : Int32))) (fun y4 => lf_lt (y4 + (lf_us y4 (16 : Int32))) (fun y5 => some (y5 &&& (63 : Int32)))))))
def f_Beds_bestCuts_5 (b : Nat) (c1 : Int32) (c2 : Int32) : Nat → Int32 → Int32 → lf_S → Option (Int32)
  | 0, _, _, _ => none
  | n + 1, v3, v4, s => (if ((1 : Int32) <<< (c2 &&& 31)) ≤ v4 then some v3 else (f_Beds_feetCut b c1 c2 v4 s).bind (fun p3 => (f_Beds_feetCut b c1 c2 v3 s).bind (fun p4 => lf_lt (p3 - p4) (fun y5 => (if 0 < y5 then lf_lt v4 (fun y6 => lf_lt (v4 + (1 : Int32)) (fun y7 => f_Beds_bestCuts_5 b c1 c2 n y6 y7 s)) else (if y5 = 0 then (f_JInt_bitCount v4).bind (fun p9 => (f_JInt_bitCount v3).bind (fun p10 => (if p10 ≤ p9 then lf_lt (v4 + (1 : Int32)) (fun y11 => f_Beds_bestCuts_5 b c1 c2 n v3 y11 s) else lf_lt v4 (fun y12 => lf_lt (v4 + (1 : Int32)) (fun y13 => f_Beds_bestCuts_5 b c1 c2 n y12 y13 s))))) else lf_lt (v4 + (1 : Int32)) (fun y8 => f_Beds_bestCuts_5 b c1 c2 n v3 y8 s)))))))
def f_Beds_bestCuts (b : Nat) (x1 : Int32) (x2 : Int32) (s : lf_S) : Option Int32 := lf_lt (0 : Int32) (fun y1 => lf_lt (1 : Int32) (fun y2 => (f_Beds_bestCuts_5 b x1 x2 5000 y1 y2 s).bind (fun p14 => some p14)))
def f_Baskets_buyersAt_5 (b : Nat) (c1 : Int32) (c2 : Int32) : Nat → Int32 → Int32 → lf_S → Option (Int32)
  | 0, _, _, _ => none
  | n + 1, v3, v4, s => (if (s.1 b 0) ≤ v4 then some v3 else lf_ck v4 5 (fun k3 => (if (s.1 (b + 3) k3) = c2 then lf_ck v4 5 (fun k5 => (if (s.1 (b + 4) k5) < c1 then lf_lt (v4 + (1 : Int32)) (fun y6 => f_Baskets_buyersAt_5 b c1 c2 n v3 y6 s) else lf_lt (v3 + (1 : Int32)) (fun y7 => lf_lt (v4 + (1 : Int32)) (fun y8 => f_Baskets_buyersAt_5 b c1 c2 n y7 y8 s)))) else lf_lt (v4 + (1 : Int32)) (fun y4 => f_Baskets_buyersAt_5 b c1 c2 n v3 y4 s))))
def f_Baskets_buyersAt (b : Nat) (x1 : Int32) (x2 : Int32) (s : lf_S) : Option Int32 := lf_lt (0 : Int32) (fun y1 => lf_lt (0 : Int32) (fun y2 => (f_Baskets_buyersAt_5 b x1 x2 5000 y1 y2 s).bind (fun p9 => some p9)))
def f_Baskets_bestPrice_7 (b : Nat) (c1 : Int32) : Nat → Int32 → Int32 → Int32 → lf_S → Option (Int32)
  | 0, _, _, _, _ => none
  | n + 1, v2, v3, v4, s => (if (99 : Int32) < v4 then some v2 else (f_Baskets_buyersAt b v4 c1 s).bind (fun p4 => lf_lt (v4 * p4) (fun y5 => (if y5 ≤ v3 then lf_lt (v4 + (1 : Int32)) (fun y6 => f_Baskets_bestPrice_7 b c1 n v2 v3 y6 s) else lf_lt v4 (fun y7 => lf_lt y5 (fun y8 => lf_lt (v4 + (1 : Int32)) (fun y9 => f_Baskets_bestPrice_7 b c1 n y7 y8 y9 s)))))))
def f_Baskets_bestPrice (b : Nat) (x1 : Int32) (s : lf_S) : Option Int32 := lf_lt (0 : Int32) (fun y1 => lf_lt (0 : Int32) (fun y2 => lf_lt (0 : Int32) (fun y3 => (f_Baskets_bestPrice_7 b x1 5000 y1 y2 y3 s).bind (fun p10 => some p10))))
def f_Beds_twinPairs_16 (b : Nat) (c2 : Int32) : Nat → Int32 → Int32 → lf_S → Option (Int32)
  | 0, _, _, _ => none
  | n + 1, v1, v3, s => (if (s.1 b 0) ≤ v3 then some v1 else lf_ck c2 6 (fun k4 => lf_ck v3 6 (fun k5 => (if (s.1 (b + 1) k4) = (s.1 (b + 1) k5) then lf_ck c2 6 (fun k7 => lf_ck v3 6 (fun k8 => (if (s.1 (b + 2) k7) = (s.1 (b + 2) k8) then lf_lt (v1 + (1 : Int32)) (fun y10 => lf_lt (v3 + (1 : Int32)) (fun y11 => f_Beds_twinPairs_16 b c2 n y10 y11 s)) else lf_lt (v3 + (1 : Int32)) (fun y9 => f_Beds_twinPairs_16 b c2 n v1 y9 s)))) else lf_lt (v3 + (1 : Int32)) (fun y6 => f_Beds_twinPairs_16 b c2 n v1 y6 s)))))
def f_Beds_twinPairs_4 (b : Nat) : Nat → Int32 → Int32 → lf_S → Option (Int32)
  | 0, _, _, _ => none
  | n + 1, v1, v2, s => (if (s.1 b 0) ≤ v2 then some v1 else lf_lt (v2 + (1 : Int32)) (fun y3 => (f_Beds_twinPairs_16 b v2 5000 v1 y3 s).bind (fun p12 => lf_lt (v2 + (1 : Int32)) (fun y13 => f_Beds_twinPairs_4 b n p12 y13 s))))
def f_Beds_twinPairs (b : Nat) (s : lf_S) : Option Int32 := lf_lt (0 : Int32) (fun y1 => lf_lt (0 : Int32) (fun y2 => (f_Beds_twinPairs_4 b 5000 y1 y2 s).bind (fun p14 => some p14)))
def f_Beds_ofSort_4 (b : Nat) (c1 : Int32) : Nat → Int32 → Int32 → lf_S → Option (Int32)
  | 0, _, _, _ => none
  | n + 1, v2, v3, s => (if (s.1 b 0) ≤ v3 then some v2 else lf_ck v3 6 (fun k3 => (if (s.1 (b + 1) k3) = c1 then lf_lt (v2 ||| ((1 : Int32) <<< (v3 &&& 31))) (fun y5 => lf_lt (v3 + (1 : Int32)) (fun y6 => f_Beds_ofSort_4 b c1 n y5 y6 s)) else lf_lt (v3 + (1 : Int32)) (fun y4 => f_Beds_ofSort_4 b c1 n v2 y4 s))))
def f_Beds_ofSort (b : Nat) (x1 : Int32) (s : lf_S) : Option Int32 := lf_lt (0 : Int32) (fun y1 => lf_lt (0 : Int32) (fun y2 => (f_Beds_ofSort_4 b x1 5000 y1 y2 s).bind (fun p7 => some p7)))
def f_Beds_stoolsAhead (b : Nat) (x1 : Int32) (x2 : Int32) (s : lf_S) : Option Int32 := lf_ck x1 6 (fun k1 => lf_lt (lf_mx (1 : Int32) ((9 : Int32) - (s.1 (b + 2) k1))) (fun y2 => lf_lt (lf_mx (0 : Int32) ((x2 + (1 : Int32)) - y2)) (fun y3 => lf_ck x1 6 (fun k4 => some (lf_mx (1 : Int32) ((s.1 (b + 3) k4) - y3))))))
def f_Log_cellOf (b : Nat) (x1 : Int32) (x2 : Int32) (s : lf_S) : Option Int32 := (if x1 < 0 then some (-1 : Int32) else (if x1 < (s.1 b 0) then lf_ck (((((s.1 b 0) - (1 : Int32)) - x1) * (4 : Int32)) + x2) 240 (fun k1 => some (s.1 (b + 1) k1)) else some (-1 : Int32)))
def f_Log_isCut (b : Nat) (x1 : Int32) (x2 : Int32) (s : lf_S) : Option Bool := (f_Log_cellOf b x1 (1 : Int32) s).bind (fun p1 => (if p1 = x2 then (f_Log_cellOf b x1 (2 : Int32) s).bind (fun p2 => (if p2 = 0 then some true else some false)) else some false))
def f_Log_latestCut_2 (b : Nat) (c1 : Int32) : Nat → Int32 → lf_S → Option ((Unit) ⊕ (Int32))
  | 0, _, _ => none
  | n + 1, v2, s => (if (s.1 b 0) ≤ v2 then some (Sum.inl ()) else (f_Log_isCut b v2 c1 s).bind (fun p2 => (if p2 = true then (f_Log_cellOf b v2 (0 : Int32) s).bind (fun p4 => some (Sum.inr (p4))) else lf_lt (v2 + (1 : Int32)) (fun y3 => f_Log_latestCut_2 b c1 n y3 s))))
def f_Log_latestCut (b : Nat) (x1 : Int32) (s : lf_S) : Option Int32 := lf_lt (0 : Int32) (fun y1 => (f_Log_latestCut_2 b x1 5000 y1 s).bind (fun p5 => Sum.elim (fun q6 => some (-1 : Int32)) (fun q7 => some q7) p5))
def f_Log_cutsOf_4 (b : Nat) (c1 : Int32) : Nat → Int32 → Int32 → lf_S → Option (Int32)
  | 0, _, _, _ => none
  | n + 1, v2, v3, s => (if (s.1 b 0) ≤ v3 then some v2 else (f_Log_isCut b v3 c1 s).bind (fun p3 => (if p3 = true then lf_lt (v2 + (1 : Int32)) (fun y5 => lf_lt (v3 + (1 : Int32)) (fun y6 => f_Log_cutsOf_4 b c1 n y5 y6 s)) else lf_lt (v3 + (1 : Int32)) (fun y4 => f_Log_cutsOf_4 b c1 n v2 y4 s))))
def f_Log_cutsOf (b : Nat) (x1 : Int32) (s : lf_S) : Option Int32 := lf_lt (0 : Int32) (fun y1 => lf_lt (0 : Int32) (fun y2 => (f_Log_cutsOf_4 b x1 5000 y1 y2 s).bind (fun p7 => some p7)))
theorem s_Tape_push_3 {sc : Nat × (Nat → Int32)} {d : Nat} {Q : mj_Q} {cl : Bool} {rc rs : Nat} {c1 : Int32} {p : lf_S} (hd : 0 ≤ d) (hk : lf_wp sc d j_Tape_push Q 49 [mj_U, mj_U, mj_U] [] (lf_hp p) cl rc rs) : ∀ (n : Nat) (v2 : Int32) (s : lf_S), f_Tape_push_3 c1 n v2 s = some p → lf_wp sc d j_Tape_push Q 3 [.ref 1, .int c1, .int v2] [] (lf_hp s) cl rc rs := by
  intro n
  induction n with
  | zero =>
    intro v2 s h
    exact absurd h (fun z => by cases z)
  | succ n ih =>
    intro v2 s h
    unfold f_Tape_push_3 at h
    refine lf_blk B_Tape_push_3 ?_
    refine lf_iload rfl ?_
    refine lf_if_lt h (fun h => ?_) (fun h => ?_)
    · rw [← Option.some.inj h] at hk
      exact mj_w_weak (ls := [mj_U, mj_U, mj_U]) (lf_rr (lf_ri (lf_ri (lf_r0)))) hk
    · refine lf_aload rfl ?_
      refine lf_getf (ci := 7) (k := 1) lf_a1 rfl (by decide) rfl ?_
      refine lf_iconst lf_c400 ?_
      refine lf_icmp_ge h (fun h => ?_) (fun h => ?_)
      · rw [← Option.some.inj h] at hk
        exact mj_w_weak (ls := [mj_U, mj_U, mj_U]) (lf_rr (lf_ri (lf_ri (lf_r0)))) hk
      · refine lf_aload rfl ?_
        refine lf_getr (ci := 7) (k := 0) lf_a1 rfl (by decide) rfl ?_
        refine lf_aload rfl ?_
        refine lf_getf (ci := 7) (k := 1) lf_a1 rfl (by decide) rfl ?_
        refine lf_iload rfl ?_
        refine lf_iload rfl ?_
        refine lf_iushr ?_
        refine lf_iconst lf_c255 ?_
        refine lf_iand ?_
        refine lf_iast h lf_a2 ?_
        intro s3 h
        refine lf_aload rfl ?_
        refine lf_dupr ?_
        refine lf_getf (ci := 7) (k := 1) lf_a1 rfl (by decide) rfl ?_
        refine lf_iconst lf_c1 ?_
        refine lf_iadd ?_
        refine lf_putf (ci := 7) (k := 1) h lf_a1 rfl (by decide) rfl rfl rfl ?_
        intro s4 h
        refine lf_iinc (L := fun y5 => [.ref 1, .int c1, .int y5]) h lf_cm8 rfl rfl (fun _ => rfl) ?_
        intro y5 h
        refine lf_goto ?_
        exact mj_w_weak (ls := [.ref 1, .int c1, .int y5]) (lf_rl (lf_rl (lf_rl (lf_r0)))) (ih y5 s4 h)
theorem s_Tape_push {sc : Nat × (Nat → Int32)} {x1 : Int32} {s : lf_S} {p : (lf_S)} (h : f_Tape_push x1 s = some p) : lf_ok sc 1 j_Tape_push [.ref 1, .int x1] s (none) p := by
  refine lf_in (D := 0) (ls := [.ref 1, .int x1, mj_U]) rfl (lf_zi (by decide +kernel)) rfl ?_
  intro d hd cl rc rs
  unfold f_Tape_push at h
  refine lf_blk B_Tape_push_0 ?_
  refine lf_iconst lf_c24 ?_
  refine lf_istore (L := fun y1 => [.ref 1, .int x1, .int y1]) h rfl rfl (fun _ => rfl) ?_
  intro y1 h
  refine lf_end ?_
  refine lf_loop h (fun p6 hp6 h => ?_)
  refine mj_w_weak (ls := [.ref 1, .int x1, .int y1]) (lf_rl (lf_rl (lf_rl (lf_r0)))) ?_
  refine s_Tape_push_3 (Nat.le_trans (by decide) hd) ?_ 5000 y1 s hp6
  refine lf_blk B_Tape_push_49 ?_
  cases h
  exact lf_ret ⟨rfl, rfl, rfl⟩
theorem s_Beds_copy {sc : Nat × (Nat → Int32)} {b : Nat} {a1 : Nat} (hb : lf_Beds b) (ha1 : lf_Beds a1) {s : lf_S} {p : (lf_S)} (h : f_Beds_copy b a1 s = some p) : lf_ok sc 1 j_Beds_copy [.ref b, .ref a1] s (none) p := by
  refine lf_in (D := 0) (ls := [.ref b, .ref a1]) rfl (lf_zi (by decide +kernel)) rfl ?_
  intro d hd cl rc rs
  unfold f_Beds_copy at h
  refine lf_blk B_Beds_copy_0 ?_
  refine lf_aload rfl ?_
  refine lf_aload rfl ?_
  refine lf_getf (ci := 1) (k := 0) (lf_Beds_0 ha1) rfl (by decide) rfl ?_
  refine lf_putf (ci := 1) (k := 0) h (lf_Beds_0 hb) rfl (by decide) rfl rfl rfl ?_
  intro s1 h
  refine lf_aload rfl ?_
  refine lf_getr (ci := 1) (k := 1) (lf_Beds_0 ha1) rfl (by decide) rfl ?_
  refine lf_iconst lf_c0 ?_
  refine lf_aload rfl ?_
  refine lf_getr (ci := 1) (k := 1) (lf_Beds_0 hb) rfl (by decide) rfl ?_
  refine lf_iconst lf_c0 ?_
  refine lf_iconst lf_c6 ?_
  refine lf_copy h (lf_Beds_1 ha1) (lf_Beds_1 hb) rfl ?_
  intro s2 h
  refine lf_aload rfl ?_
  refine lf_getr (ci := 1) (k := 2) (lf_Beds_0 ha1) rfl (by decide) rfl ?_
  refine lf_iconst lf_c0 ?_
  refine lf_aload rfl ?_
  refine lf_getr (ci := 1) (k := 2) (lf_Beds_0 hb) rfl (by decide) rfl ?_
  refine lf_iconst lf_c0 ?_
  refine lf_iconst lf_c6 ?_
  refine lf_copy h (lf_Beds_2 ha1) (lf_Beds_2 hb) rfl ?_
  intro s6 h
  refine lf_aload rfl ?_
  refine lf_getr (ci := 1) (k := 3) (lf_Beds_0 ha1) rfl (by decide) rfl ?_
  refine lf_iconst lf_c0 ?_
  refine lf_aload rfl ?_
  refine lf_getr (ci := 1) (k := 3) (lf_Beds_0 hb) rfl (by decide) rfl ?_
  refine lf_iconst lf_c0 ?_
  refine lf_iconst lf_c6 ?_
  refine lf_copy h (lf_Beds_3 ha1) (lf_Beds_3 hb) rfl ?_
  intro s10 h
  refine lf_aload rfl ?_
  refine lf_getr (ci := 1) (k := 4) (lf_Beds_0 ha1) rfl (by decide) rfl ?_
  refine lf_iconst lf_c0 ?_
  refine lf_aload rfl ?_
  refine lf_getr (ci := 1) (k := 4) (lf_Beds_0 hb) rfl (by decide) rfl ?_
  refine lf_iconst lf_c0 ?_
  refine lf_iconst lf_c6 ?_
  refine lf_copy h (lf_Beds_4 ha1) (lf_Beds_4 hb) rfl ?_
  intro s14 h
  cases h
  exact lf_ret ⟨rfl, rfl, rfl⟩
theorem s_Baskets_copy {sc : Nat × (Nat → Int32)} {b : Nat} {a1 : Nat} (hb : lf_Baskets b) (ha1 : lf_Baskets a1) {s : lf_S} {p : (lf_S)} (h : f_Baskets_copy b a1 s = some p) : lf_ok sc 1 j_Baskets_copy [.ref b, .ref a1] s (none) p := by
  refine lf_in (D := 0) (ls := [.ref b, .ref a1]) rfl (lf_zi (by decide +kernel)) rfl ?_
  intro d hd cl rc rs
  unfold f_Baskets_copy at h
  refine lf_blk B_Baskets_copy_0 ?_
  refine lf_aload rfl ?_
  refine lf_aload rfl ?_
  refine lf_getf (ci := 0) (k := 0) (lf_Baskets_0 ha1) rfl (by decide) rfl ?_
  refine lf_putf (ci := 0) (k := 0) h (lf_Baskets_0 hb) rfl (by decide) rfl rfl rfl ?_
  intro s1 h
  refine lf_aload rfl ?_
  refine lf_getr (ci := 0) (k := 1) (lf_Baskets_0 ha1) rfl (by decide) rfl ?_
  refine lf_iconst lf_c0 ?_
  refine lf_aload rfl ?_
  refine lf_getr (ci := 0) (k := 1) (lf_Baskets_0 hb) rfl (by decide) rfl ?_
  refine lf_iconst lf_c0 ?_
  refine lf_iconst lf_c5 ?_
  refine lf_copy h (lf_Baskets_1 ha1) (lf_Baskets_1 hb) rfl ?_
  intro s2 h
  refine lf_aload rfl ?_
  refine lf_getr (ci := 0) (k := 2) (lf_Baskets_0 ha1) rfl (by decide) rfl ?_
  refine lf_iconst lf_c0 ?_
  refine lf_aload rfl ?_
  refine lf_getr (ci := 0) (k := 2) (lf_Baskets_0 hb) rfl (by decide) rfl ?_
  refine lf_iconst lf_c0 ?_
  refine lf_iconst lf_c5 ?_
  refine lf_copy h (lf_Baskets_2 ha1) (lf_Baskets_2 hb) rfl ?_
  intro s6 h
  refine lf_aload rfl ?_
  refine lf_getr (ci := 0) (k := 3) (lf_Baskets_0 ha1) rfl (by decide) rfl ?_
  refine lf_iconst lf_c0 ?_
  refine lf_aload rfl ?_
  refine lf_getr (ci := 0) (k := 3) (lf_Baskets_0 hb) rfl (by decide) rfl ?_
  refine lf_iconst lf_c0 ?_
  refine lf_iconst lf_c5 ?_
  refine lf_copy h (lf_Baskets_3 ha1) (lf_Baskets_3 hb) rfl ?_
  intro s10 h
  refine lf_aload rfl ?_
  refine lf_getr (ci := 0) (k := 4) (lf_Baskets_0 ha1) rfl (by decide) rfl ?_
  refine lf_iconst lf_c0 ?_
  refine lf_aload rfl ?_
  refine lf_getr (ci := 0) (k := 4) (lf_Baskets_0 hb) rfl (by decide) rfl ?_
  refine lf_iconst lf_c0 ?_
  refine lf_iconst lf_c5 ?_
  refine lf_copy h (lf_Baskets_4 ha1) (lf_Baskets_4 hb) rfl ?_
  intro s14 h
  refine lf_aload rfl ?_
  refine lf_getr (ci := 0) (k := 5) (lf_Baskets_0 ha1) rfl (by decide) rfl ?_
  refine lf_iconst lf_c0 ?_
  refine lf_aload rfl ?_
  refine lf_getr (ci := 0) (k := 5) (lf_Baskets_0 hb) rfl (by decide) rfl ?_
  refine lf_iconst lf_c0 ?_
  refine lf_iconst lf_c5 ?_
  refine lf_copy h (lf_Baskets_5 ha1) (lf_Baskets_5 hb) rfl ?_
  intro s18 h
  refine lf_aload rfl ?_
  refine lf_getr (ci := 0) (k := 6) (lf_Baskets_0 ha1) rfl (by decide) rfl ?_
  refine lf_iconst lf_c0 ?_
  refine lf_aload rfl ?_
  refine lf_getr (ci := 0) (k := 6) (lf_Baskets_0 hb) rfl (by decide) rfl ?_
  refine lf_iconst lf_c0 ?_
  refine lf_iconst lf_c5 ?_
  refine lf_copy h (lf_Baskets_6 ha1) (lf_Baskets_6 hb) rfl ?_
  intro s22 h
  refine lf_aload rfl ?_
  refine lf_getr (ci := 0) (k := 7) (lf_Baskets_0 ha1) rfl (by decide) rfl ?_
  refine lf_iconst lf_c0 ?_
  refine lf_aload rfl ?_
  refine lf_getr (ci := 0) (k := 7) (lf_Baskets_0 hb) rfl (by decide) rfl ?_
  refine lf_iconst lf_c0 ?_
  refine lf_iconst lf_c30 ?_
  refine lf_copy h (lf_Baskets_7 ha1) (lf_Baskets_7 hb) rfl ?_
  intro s26 h
  refine lf_aload rfl ?_
  refine lf_getr (ci := 0) (k := 8) (lf_Baskets_0 ha1) rfl (by decide) rfl ?_
  refine lf_iconst lf_c0 ?_
  refine lf_aload rfl ?_
  refine lf_getr (ci := 0) (k := 8) (lf_Baskets_0 hb) rfl (by decide) rfl ?_
  refine lf_iconst lf_c0 ?_
  refine lf_iconst lf_c5 ?_
  refine lf_copy h (lf_Baskets_8 ha1) (lf_Baskets_8 hb) rfl ?_
  intro s30 h
  cases h
  exact lf_ret ⟨rfl, rfl, rfl⟩
theorem s_Hands_copy {sc : Nat × (Nat → Int32)} {b : Nat} {a1 : Nat} (hb : lf_Hands b) (ha1 : lf_Hands a1) {s : lf_S} {p : (lf_S)} (h : f_Hands_copy b a1 s = some p) : lf_ok sc 1 j_Hands_copy [.ref b, .ref a1] s (none) p := by
  refine lf_in (D := 0) (ls := [.ref b, .ref a1]) rfl (lf_zi (by decide +kernel)) rfl ?_
  intro d hd cl rc rs
  unfold f_Hands_copy at h
  refine lf_blk B_Hands_copy_0 ?_
  refine lf_aload rfl ?_
  refine lf_aload rfl ?_
  refine lf_getf (ci := 2) (k := 0) (lf_Hands_0 ha1) rfl (by decide) rfl ?_
  refine lf_putf (ci := 2) (k := 0) h (lf_Hands_0 hb) rfl (by decide) rfl rfl rfl ?_
  intro s1 h
  refine lf_aload rfl ?_
  refine lf_getr (ci := 2) (k := 1) (lf_Hands_0 ha1) rfl (by decide) rfl ?_
  refine lf_iconst lf_c0 ?_
  refine lf_aload rfl ?_
  refine lf_getr (ci := 2) (k := 1) (lf_Hands_0 hb) rfl (by decide) rfl ?_
  refine lf_iconst lf_c0 ?_
  refine lf_iconst lf_c5 ?_
  refine lf_copy h (lf_Hands_1 ha1) (lf_Hands_1 hb) rfl ?_
  intro s2 h
  refine lf_aload rfl ?_
  refine lf_getr (ci := 2) (k := 2) (lf_Hands_0 ha1) rfl (by decide) rfl ?_
  refine lf_iconst lf_c0 ?_
  refine lf_aload rfl ?_
  refine lf_getr (ci := 2) (k := 2) (lf_Hands_0 hb) rfl (by decide) rfl ?_
  refine lf_iconst lf_c0 ?_
  refine lf_iconst lf_c5 ?_
  refine lf_copy h (lf_Hands_2 ha1) (lf_Hands_2 hb) rfl ?_
  intro s6 h
  cases h
  exact lf_ret ⟨rfl, rfl, rfl⟩
theorem s_Orders_copy {sc : Nat × (Nat → Int32)} {b : Nat} {a1 : Nat} (hb : lf_Orders b) (ha1 : lf_Orders a1) {s : lf_S} {p : (lf_S)} (h : f_Orders_copy b a1 s = some p) : lf_ok sc 1 j_Orders_copy [.ref b, .ref a1] s (none) p := by
  refine lf_in (D := 0) (ls := [.ref b, .ref a1]) rfl (lf_zi (by decide +kernel)) rfl ?_
  intro d hd cl rc rs
  unfold f_Orders_copy at h
  refine lf_blk B_Orders_copy_0 ?_
  refine lf_aload rfl ?_
  refine lf_aload rfl ?_
  refine lf_getf (ci := 6) (k := 0) (lf_Orders_0 ha1) rfl (by decide) rfl ?_
  refine lf_putf (ci := 6) (k := 0) h (lf_Orders_0 hb) rfl (by decide) rfl rfl rfl ?_
  intro s1 h
  refine lf_aload rfl ?_
  refine lf_aload rfl ?_
  refine lf_getf (ci := 6) (k := 1) (lf_Orders_0 ha1) rfl (by decide) rfl ?_
  refine lf_putf (ci := 6) (k := 1) h (lf_Orders_0 hb) rfl (by decide) rfl rfl rfl ?_
  intro s2 h
  refine lf_aload rfl ?_
  refine lf_getr (ci := 6) (k := 2) (lf_Orders_0 ha1) rfl (by decide) rfl ?_
  refine lf_iconst lf_c0 ?_
  refine lf_aload rfl ?_
  refine lf_getr (ci := 6) (k := 2) (lf_Orders_0 hb) rfl (by decide) rfl ?_
  refine lf_iconst lf_c0 ?_
  refine lf_iconst lf_c6 ?_
  refine lf_copy h (lf_Orders_1 ha1) (lf_Orders_1 hb) rfl ?_
  intro s3 h
  refine lf_aload rfl ?_
  refine lf_getr (ci := 6) (k := 3) (lf_Orders_0 ha1) rfl (by decide) rfl ?_
  refine lf_iconst lf_c0 ?_
  refine lf_aload rfl ?_
  refine lf_getr (ci := 6) (k := 3) (lf_Orders_0 hb) rfl (by decide) rfl ?_
  refine lf_iconst lf_c0 ?_
  refine lf_iconst lf_c6 ?_
  refine lf_copy h (lf_Orders_2 ha1) (lf_Orders_2 hb) rfl ?_
  intro s7 h
  cases h
  exact lf_ret ⟨rfl, rfl, rfl⟩
theorem s_Log_copy {sc : Nat × (Nat → Int32)} {b : Nat} {a1 : Nat} (hb : lf_Log b) (ha1 : lf_Log a1) {s : lf_S} {p : (lf_S)} (h : f_Log_copy b a1 s = some p) : lf_ok sc 1 j_Log_copy [.ref b, .ref a1] s (none) p := by
  refine lf_in (D := 0) (ls := [.ref b, .ref a1]) rfl (lf_zi (by decide +kernel)) rfl ?_
  intro d hd cl rc rs
  unfold f_Log_copy at h
  refine lf_blk B_Log_copy_0 ?_
  refine lf_aload rfl ?_
  refine lf_aload rfl ?_
  refine lf_getf (ci := 5) (k := 0) (lf_Log_0 ha1) rfl (by decide) rfl ?_
  refine lf_putf (ci := 5) (k := 0) h (lf_Log_0 hb) rfl (by decide) rfl rfl rfl ?_
  intro s1 h
  refine lf_aload rfl ?_
  refine lf_getr (ci := 5) (k := 1) (lf_Log_0 ha1) rfl (by decide) rfl ?_
  refine lf_iconst lf_c0 ?_
  refine lf_aload rfl ?_
  refine lf_getr (ci := 5) (k := 1) (lf_Log_0 hb) rfl (by decide) rfl ?_
  refine lf_iconst lf_c0 ?_
  refine lf_iconst lf_c240 ?_
  refine lf_copy h (lf_Log_1 ha1) (lf_Log_1 hb) rfl ?_
  intro s2 h
  cases h
  exact lf_ret ⟨rfl, rfl, rfl⟩
theorem s_Tape_moveTo_5 {sc : Nat × (Nat → Int32)} {d : Nat} {Q : mj_Q} {cl : Bool} {rc rs : Nat} {p : lf_S} (hd : 0 ≤ d) (hk : lf_wp sc d j_Tape_moveTo Q 43 [mj_U, mj_U] [] (lf_hp p) cl rc rs) : ∀ (n : Nat) (s : lf_S), f_Tape_moveTo_5 n s = some p → lf_wp sc d j_Tape_moveTo Q 5 [.ref 1, mj_U] [] (lf_hp s) cl rc rs := by
  intro n
  induction n with
  | zero =>
    intro s h
    exact absurd h (fun z => by cases z)
  | succ n ih =>
    intro s h
    unfold f_Tape_moveTo_5 at h
    refine lf_blk B_Tape_moveTo_5 ?_
    refine lf_aload rfl ?_
    refine lf_getf (ci := 7) (k := 3) lf_a1 rfl (by decide) rfl ?_
    refine lf_aload rfl ?_
    refine lf_getf (ci := 7) (k := 1) lf_a1 rfl (by decide) rfl ?_
    refine lf_icmp_ge h (fun h => ?_) (fun h => ?_)
    · rw [← Option.some.inj h] at hk
      exact mj_w_weak (ls := [mj_U, mj_U]) (lf_rr (lf_rl (lf_r0))) hk
    · refine lf_aload rfl ?_
      refine lf_getr (ci := 7) (k := 0) lf_a1 rfl (by decide) rfl ?_
      refine lf_aload rfl ?_
      refine lf_getf (ci := 7) (k := 3) lf_a1 rfl (by decide) rfl ?_
      refine lf_iald h lf_a2 ?_
      intro k2 h
      refine lf_iconst lf_c32 ?_
      refine lf_icmp_ne h (fun h => ?_) (fun h => ?_)
      · rw [← Option.some.inj h] at hk
        exact mj_w_weak (ls := [mj_U, mj_U]) (lf_rr (lf_rl (lf_r0))) hk
      · refine lf_aload rfl ?_
        refine lf_dupr ?_
        refine lf_getf (ci := 7) (k := 3) lf_a1 rfl (by decide) rfl ?_
        refine lf_iconst lf_c1 ?_
        refine lf_iadd ?_
        refine lf_putf (ci := 7) (k := 3) h lf_a1 rfl (by decide) rfl rfl rfl ?_
        intro s3 h
        refine lf_goto ?_
        exact mj_w_weak (ls := [.ref 1, mj_U]) (lf_rl (lf_rl (lf_r0))) (ih s3 h)
theorem s_Tape_moveTo {sc : Nat × (Nat → Int32)} {x1 : Int32} {s : lf_S} {p : (lf_S)} (h : f_Tape_moveTo x1 s = some p) : lf_ok sc 1 j_Tape_moveTo [.ref 1, .int x1] s (none) p := by
  refine lf_in (D := 0) (ls := [.ref 1, .int x1]) rfl (lf_zi (by decide +kernel)) rfl ?_
  intro d hd cl rc rs
  unfold f_Tape_moveTo at h
  refine lf_blk B_Tape_moveTo_0 ?_
  refine lf_aload rfl ?_
  refine lf_iload rfl ?_
  refine lf_putf (ci := 7) (k := 3) h lf_a1 rfl (by decide) rfl rfl rfl ?_
  intro s1 h
  refine lf_end ?_
  refine lf_loop h (fun p4 hp4 h => ?_)
  refine mj_w_weak (ls := [.ref 1, mj_U]) (lf_rl (lf_ri (lf_r0))) ?_
  refine s_Tape_moveTo_5 (Nat.le_trans (by decide) hd) ?_ 5000 s1 hp4
  refine lf_blk B_Tape_moveTo_43 ?_
  cases h
  exact lf_ret ⟨rfl, rfl, rfl⟩
theorem s_Tape_start {sc : Nat × (Nat → Int32)} {s : lf_S} {p : (lf_S)} (h : f_Tape_start s = some p) : lf_ok sc 2 j_Tape_start [.ref 1] s (none) p := by
  refine lf_in (D := 1) (ls := [.ref 1]) rfl (lf_zi (by decide +kernel)) rfl ?_
  intro d hd cl rc rs
  unfold f_Tape_start at h
  refine lf_blk B_Tape_start_0 ?_
  refine lf_aload rfl ?_
  refine lf_iconst lf_cm1 ?_
  refine lf_putf (ci := 7) (k := 2) h lf_a1 rfl (by decide) rfl rfl rfl ?_
  intro s1 h
  refine lf_aload rfl ?_
  refine lf_iconst lf_c0 ?_
  refine lf_callVWu (as := [.int (0 : Int32)]) (rest := []) h rfl rfl lf_a1 rfl (Nat.le_trans (by decide) hd) rfl rfl (fun p2 h9 => s_Tape_moveTo h9) ?_
  intro p2 h
  cases h
  exact lf_ret ⟨rfl, rfl, rfl⟩
theorem s_Tape_failed {sc : Nat × (Nat → Int32)} {s : lf_S} {p : Bool} (h : f_Tape_failed s = some p) : lf_ok sc 1 j_Tape_failed [.ref 1] s (some (.int (lf_i p))) s := by
  refine lf_in (D := 0) (ls := [.ref 1]) rfl lf_zb rfl ?_
  intro d hd cl rc rs
  unfold f_Tape_failed at h
  refine lf_blk B_Tape_failed_0 ?_
  refine lf_aload rfl ?_
  refine lf_getf (ci := 7) (k := 2) lf_a1 rfl (by decide) rfl ?_
  refine lf_iconst lf_cm1 ?_
  refine lf_icmp_eq h (fun h => ?_) (fun h => ?_)
  · refine lf_blk B_Tape_failed_12 ?_
    refine lf_iconst lf_c0 ?_
    refine lf_end ?_
    refine lf_blk B_Tape_failed_13 ?_
    cases h
    exact lf_iret ⟨rfl, rfl, rfl⟩
  · refine lf_iconst lf_c1 ?_
    refine lf_goto ?_
    refine lf_blk B_Tape_failed_13 ?_
    cases h
    exact lf_iret ⟨rfl, rfl, rfl⟩
theorem s_Tape_isSign {sc : Nat × (Nat → Int32)} {x1 : Int32} {s : lf_S} {p : Bool} (h : f_Tape_isSign x1 s = some p) : lf_ok sc 2 j_Tape_isSign [.ref 1, .int x1] s (some (.int (lf_i p))) s := by
  refine lf_in (D := 1) (ls := [.ref 1, .int x1]) rfl lf_zb rfl ?_
  intro d hd cl rc rs
  unfold f_Tape_isSign at h
  refine lf_blk B_Tape_isSign_0 ?_
  refine lf_aload rfl ?_
  refine lf_callVRb (as := []) (rest := []) h rfl rfl lf_a1 rfl (Nat.le_trans (by decide) hd) rfl rfl (fun p1 h9 => s_Tape_failed h9) ?_
  intro p1 h
  refine lf_ifb_ne h (fun h => ?_) (fun h => ?_)
  · refine lf_blk B_Tape_isSign_35 ?_
    refine lf_iconst lf_c0 ?_
    refine lf_end ?_
    refine lf_blk B_Tape_isSign_36 ?_
    cases h
    exact lf_iret ⟨rfl, rfl, rfl⟩
  · refine lf_aload rfl ?_
    refine lf_getf (ci := 7) (k := 3) lf_a1 rfl (by decide) rfl ?_
    refine lf_aload rfl ?_
    refine lf_getf (ci := 7) (k := 1) lf_a1 rfl (by decide) rfl ?_
    refine lf_icmp_ge h (fun h => ?_) (fun h => ?_)
    · refine lf_blk B_Tape_isSign_35 ?_
      refine lf_iconst lf_c0 ?_
      refine lf_end ?_
      refine lf_blk B_Tape_isSign_36 ?_
      cases h
      exact lf_iret ⟨rfl, rfl, rfl⟩
    · refine lf_aload rfl ?_
      refine lf_getr (ci := 7) (k := 0) lf_a1 rfl (by decide) rfl ?_
      refine lf_aload rfl ?_
      refine lf_getf (ci := 7) (k := 3) lf_a1 rfl (by decide) rfl ?_
      refine lf_iald h lf_a2 ?_
      intro k2 h
      refine lf_iload rfl ?_
      refine lf_icmp_ne h (fun h => ?_) (fun h => ?_)
      · refine lf_blk B_Tape_isSign_35 ?_
        refine lf_iconst lf_c0 ?_
        refine lf_end ?_
        refine lf_blk B_Tape_isSign_36 ?_
        cases h
        exact lf_iret ⟨rfl, rfl, rfl⟩
      · refine lf_iconst lf_c1 ?_
        refine lf_goto ?_
        refine lf_blk B_Tape_isSign_36 ?_
        cases h
        exact lf_iret ⟨rfl, rfl, rfl⟩
theorem s_Tape_takeSign {sc : Nat × (Nat → Int32)} {x1 : Int32} {s : lf_S} {p : (Bool × lf_S)} (h : f_Tape_takeSign x1 s = some p) : lf_ok sc 3 j_Tape_takeSign [.ref 1, .int x1] s (some (.int (lf_i p.1))) p.2 := by
  refine lf_in (D := 2) (ls := [.ref 1, .int x1, mj_U]) rfl lf_zb rfl ?_
  intro d hd cl rc rs
  unfold f_Tape_takeSign at h
  refine lf_blk B_Tape_takeSign_0 ?_
  refine lf_aload rfl ?_
  refine lf_iload rfl ?_
  refine lf_callVRb (as := [.int x1]) (rest := []) h rfl rfl lf_a1 rfl (Nat.le_trans (by decide) hd) rfl rfl (fun p1 h9 => s_Tape_isSign h9) ?_
  intro p1 h
  refine lf_istoreb (L := fun e2 => [.ref 1, .int x1, .int (lf_i e2)]) h rfl rfl (fun _ => rfl) ?_
  intro e2 h
  refine lf_iload rfl ?_
  refine lf_ifb_eq h (fun h => ?_) (fun h => ?_)
  · refine lf_blk B_Tape_takeSign_20 ?_
    refine lf_iload rfl ?_
    cases h
    exact lf_iret ⟨rfl, rfl, rfl⟩
  · refine lf_aload rfl ?_
    refine lf_aload rfl ?_
    refine lf_getf (ci := 7) (k := 3) lf_a1 rfl (by decide) rfl ?_
    refine lf_iconst lf_c1 ?_
    refine lf_iadd ?_
    refine lf_callVWu (as := [.int ((s.1 1 3) + (1 : Int32))]) (rest := []) h rfl rfl lf_a1 rfl (Nat.le_trans (by decide) hd) rfl rfl (fun p3 h9 => s_Tape_moveTo h9) ?_
    intro p3 h
    refine lf_end ?_
    refine lf_blk B_Tape_takeSign_20 ?_
    refine lf_iload rfl ?_
    cases h
    exact lf_iret ⟨rfl, rfl, rfl⟩
theorem s_Tape_fail {sc : Nat × (Nat → Int32)} {s : lf_S} {p : (lf_S)} (h : f_Tape_fail s = some p) : lf_ok sc 1 j_Tape_fail [.ref 1] s (none) p := by
  refine lf_in (D := 0) (ls := [.ref 1]) rfl (lf_zi (by decide +kernel)) rfl ?_
  intro d hd cl rc rs
  unfold f_Tape_fail at h
  refine lf_blk B_Tape_fail_0 ?_
  refine lf_aload rfl ?_
  refine lf_getf (ci := 7) (k := 2) lf_a1 rfl (by decide) rfl ?_
  refine lf_iconst lf_cm1 ?_
  refine lf_icmp_ne h (fun h => ?_) (fun h => ?_)
  · refine lf_blk B_Tape_fail_16 ?_
    cases h
    exact lf_ret ⟨rfl, rfl, rfl⟩
  · refine lf_aload rfl ?_
    refine lf_aload rfl ?_
    refine lf_getf (ci := 7) (k := 3) lf_a1 rfl (by decide) rfl ?_
    refine lf_putf (ci := 7) (k := 2) h lf_a1 rfl (by decide) rfl rfl rfl ?_
    intro s1 h
    refine lf_end ?_
    refine lf_blk B_Tape_fail_16 ?_
    cases h
    exact lf_ret ⟨rfl, rfl, rfl⟩
theorem s_Tape_lineComes {sc : Nat × (Nat → Int32)} {x1 : Int32} {x2 : Int32} {s : lf_S} {p : (Bool × lf_S)} (h : f_Tape_lineComes x1 x2 s = some p) : lf_ok sc 4 j_Tape_lineComes [.ref 1, .int x1, .int x2] s (some (.int (lf_i p.1))) p.2 := by
  refine lf_in (D := 3) (ls := [.ref 1, .int x1, .int x2]) rfl lf_zb rfl ?_
  intro d hd cl rc rs
  unfold f_Tape_lineComes at h
  refine lf_blk B_Tape_lineComes_0 ?_
  refine lf_aload rfl ?_
  refine lf_callVRb (as := []) (rest := []) h rfl rfl lf_a1 rfl (Nat.le_trans (by decide) hd) rfl rfl (fun p1 h9 => s_Tape_failed h9) ?_
  intro p1 h
  refine lf_ifb_ne h (fun h => ?_) (fun h => ?_)
  · refine lf_blk B_Tape_lineComes_18 ?_
    refine lf_iconst lf_c0 ?_
    cases h
    exact lf_iret ⟨rfl, rfl, rfl⟩
  · refine lf_aload rfl ?_
    refine lf_getf (ci := 7) (k := 3) lf_a1 rfl (by decide) rfl ?_
    refine lf_aload rfl ?_
    refine lf_getf (ci := 7) (k := 1) lf_a1 rfl (by decide) rfl ?_
    refine lf_icmp_lt h (fun h => ?_) (fun h => ?_)
    · refine lf_blk B_Tape_lineComes_20 ?_
      refine lf_iload rfl ?_
      refine lf_if_ne h (fun h => ?_) (fun h => ?_)
      · refine lf_blk B_Tape_lineComes_26 ?_
        refine lf_aload rfl ?_
        refine lf_iconst lf_c59 ?_
        refine lf_callVWb (as := [.int (59 : Int32)]) (rest := []) h rfl rfl lf_a1 rfl (Nat.le_trans (by decide) hd) rfl rfl (fun p2 h9 => s_Tape_takeSign h9) ?_
        intro p2 h
        refine lf_ifb_eq h (fun h => ?_) (fun h => ?_)
        · refine lf_blk B_Tape_lineComes_40 ?_
          refine lf_aload rfl ?_
          refine lf_callVWu (as := []) (rest := []) h rfl rfl lf_a1 rfl (Nat.le_trans (by decide) hd) rfl rfl (fun p3 h9 => s_Tape_fail h9) ?_
          intro p3 h
          refine lf_end ?_
          refine lf_blk B_Tape_lineComes_44 ?_
          refine lf_aload rfl ?_
          refine lf_callVRb (as := []) (rest := []) h rfl rfl lf_a1 rfl (Nat.le_trans (by decide) hd) rfl rfl (fun p4 h9 => s_Tape_failed h9) ?_
          intro p4 h
          refine lf_ifb_ne h (fun h => ?_) (fun h => ?_)
          · refine lf_blk B_Tape_lineComes_55 ?_
            refine lf_iconst lf_c0 ?_
            refine lf_end ?_
            refine lf_blk B_Tape_lineComes_56 ?_
            cases h
            exact lf_iret ⟨rfl, rfl, rfl⟩
          · refine lf_iconst lf_c1 ?_
            refine lf_goto ?_
            refine lf_blk B_Tape_lineComes_56 ?_
            cases h
            exact lf_iret ⟨rfl, rfl, rfl⟩
        · refine lf_iload rfl ?_
          refine lf_iload rfl ?_
          refine lf_icmp_lt h (fun h => ?_) (fun h => ?_)
          · refine lf_blk B_Tape_lineComes_44 ?_
            refine lf_aload rfl ?_
            refine lf_callVRb (as := []) (rest := []) h rfl rfl lf_a1 rfl (Nat.le_trans (by decide) hd) rfl rfl (fun p5 h9 => s_Tape_failed h9) ?_
            intro p5 h
            refine lf_ifb_ne h (fun h => ?_) (fun h => ?_)
            · refine lf_blk B_Tape_lineComes_55 ?_
              refine lf_iconst lf_c0 ?_
              refine lf_end ?_
              refine lf_blk B_Tape_lineComes_56 ?_
              cases h
              exact lf_iret ⟨rfl, rfl, rfl⟩
            · refine lf_iconst lf_c1 ?_
              refine lf_goto ?_
              refine lf_blk B_Tape_lineComes_56 ?_
              cases h
              exact lf_iret ⟨rfl, rfl, rfl⟩
          · refine lf_end ?_
            refine lf_blk B_Tape_lineComes_40 ?_
            refine lf_aload rfl ?_
            refine lf_callVWu (as := []) (rest := []) h rfl rfl lf_a1 rfl (Nat.le_trans (by decide) hd) rfl rfl (fun p6 h9 => s_Tape_fail h9) ?_
            intro p6 h
            refine lf_end ?_
            refine lf_blk B_Tape_lineComes_44 ?_
            refine lf_aload rfl ?_
            refine lf_callVRb (as := []) (rest := []) h rfl rfl lf_a1 rfl (Nat.le_trans (by decide) hd) rfl rfl (fun p7 h9 => s_Tape_failed h9) ?_
            intro p7 h
            refine lf_ifb_ne h (fun h => ?_) (fun h => ?_)
            · refine lf_blk B_Tape_lineComes_55 ?_
              refine lf_iconst lf_c0 ?_
              refine lf_end ?_
              refine lf_blk B_Tape_lineComes_56 ?_
              cases h
              exact lf_iret ⟨rfl, rfl, rfl⟩
            · refine lf_iconst lf_c1 ?_
              refine lf_goto ?_
              refine lf_blk B_Tape_lineComes_56 ?_
              cases h
              exact lf_iret ⟨rfl, rfl, rfl⟩
      · refine lf_iconst lf_c1 ?_
        cases h
        exact lf_iret ⟨rfl, rfl, rfl⟩
    · refine lf_end ?_
      refine lf_blk B_Tape_lineComes_18 ?_
      refine lf_iconst lf_c0 ?_
      cases h
      exact lf_iret ⟨rfl, rfl, rfl⟩
theorem s_Tape_isWord_33 {sc : Nat × (Nat → Int32)} {d : Nat} {Q : mj_Q} {cl : Bool} {rc rs : Nat} {t1 : Nat} {c2 : Int32} {s : lf_S} {p : (Unit) ⊕ (Bool)} (ht1 : t1 < 71) (hd : 0 ≤ d) (hk : Sum.elim (fun q0a => lf_wp sc d j_Tape_isWord Q 65 [.ref 1, mj_U, .int c2, mj_U] [] (lf_hp s) cl rc rs) (fun q0b => Q (.inl (some (.int (lf_i q0b)))) (lf_hp s) cl) p) : ∀ (n : Nat) (v3 : Int32), f_Tape_isWord_33 t1 c2 n v3 s = some p → lf_wp sc d j_Tape_isWord Q 33 [.ref 1, .ref (mj_SC + 1 + t1), .int c2, .int v3] [] (lf_hp s) cl rc rs := by
  intro n
  induction n with
  | zero =>
    intro v3 h
    exact absurd h (fun z => by cases z)
  | succ n ih =>
    intro v3 h
    unfold f_Tape_isWord_33 at h
    refine lf_blk B_Tape_isWord_33 ?_
    refine lf_iload rfl ?_
    refine lf_iload rfl ?_
    refine lf_icmp_ge h (fun h => ?_) (fun h => ?_)
    · rw [← Option.some.inj h] at hk
      exact mj_w_weak (ls := [.ref 1, mj_U, .int c2, mj_U]) (lf_rl (lf_rr (lf_rl (lf_ri (lf_r0))))) hk
    · refine lf_aload rfl ?_
      refine lf_getr (ci := 7) (k := 0) lf_a1 rfl (by decide) rfl ?_
      refine lf_iload rfl ?_
      refine lf_iald h lf_a2 ?_
      intro k3 h
      refine lf_aload rfl ?_
      refine lf_iload rfl ?_
      refine lf_aload rfl ?_
      refine lf_getf (ci := 7) (k := 3) lf_a1 rfl (by decide) rfl ?_
      refine lf_isub ?_
      refine lf_char h rfl ?_
      intro k4 h
      refine lf_icmp_eq h (fun h => ?_) (fun h => ?_)
      · refine lf_blk B_Tape_isWord_59 ?_
        refine lf_iinc (L := fun y5 => [.ref 1, .ref (mj_SC + 1 + t1), .int c2, .int y5]) h lf_c1 rfl rfl (fun _ => rfl) ?_
        intro y5 h
        refine lf_goto ?_
        exact mj_w_weak (ls := [.ref 1, .ref (mj_SC + 1 + t1), .int c2, .int y5]) (lf_rl (lf_rl (lf_rl (lf_rl (lf_r0))))) (ih y5 h)
      · refine lf_iconst lf_c0 ?_
        rw [← Option.some.inj h] at hk
        exact lf_iret hk
theorem s_Tape_isWord {sc : Nat × (Nat → Int32)} {t1 : Nat} (ht1 : t1 < 71) {s : lf_S} {p : Bool} (h : f_Tape_isWord t1 s = some p) : lf_ok sc 1 j_Tape_isWord [.ref 1, .ref (mj_SC + 1 + t1)] s (some (.int (lf_i p))) s := by
  refine lf_in (D := 0) (ls := [.ref 1, .ref (mj_SC + 1 + t1), mj_U, mj_U]) rfl lf_zb rfl ?_
  intro d hd cl rc rs
  unfold f_Tape_isWord at h
  refine lf_blk B_Tape_isWord_0 ?_
  refine lf_aload rfl ?_
  refine lf_getf (ci := 7) (k := 3) lf_a1 rfl (by decide) rfl ?_
  refine lf_aload rfl ?_
  refine lf_len ht1 rfl ?_
  refine lf_iadd ?_
  refine lf_istore (L := fun y1 => [.ref 1, .ref (mj_SC + 1 + t1), .int y1, mj_U]) h rfl rfl (fun _ => rfl) ?_
  intro y1 h
  refine lf_aload rfl ?_
  refine lf_getf (ci := 7) (k := 2) lf_a1 rfl (by decide) rfl ?_
  refine lf_iconst lf_cm1 ?_
  refine lf_icmp_ne h (fun h => ?_) (fun h => ?_)
  · refine lf_blk B_Tape_isWord_26 ?_
    refine lf_iconst lf_c0 ?_
    cases h
    exact lf_iret ⟨rfl, rfl, rfl⟩
  · refine lf_iload rfl ?_
    refine lf_aload rfl ?_
    refine lf_getf (ci := 7) (k := 1) lf_a1 rfl (by decide) rfl ?_
    refine lf_icmp_le h (fun h => ?_) (fun h => ?_)
    · refine lf_blk B_Tape_isWord_28 ?_
      refine lf_aload rfl ?_
      refine lf_getf (ci := 7) (k := 3) lf_a1 rfl (by decide) rfl ?_
      refine lf_istore (L := fun y2 => [.ref 1, .ref (mj_SC + 1 + t1), .int y1, .int y2]) h rfl rfl (fun _ => rfl) ?_
      intro y2 h
      refine lf_end ?_
      refine lf_loop h (fun p6 hp6 h => ?_)
      refine mj_w_weak (ls := [.ref 1, .ref (mj_SC + 1 + t1), .int y1, .int y2]) (lf_rl (lf_rl (lf_rl (lf_rl (lf_r0))))) ?_
      refine s_Tape_isWord_33 ht1 (Nat.le_trans (by decide) hd) ?_ 5000 y2 hp6
      cases p6 with
      | inl q7 =>
        dsimp only [Sum.elim_inl, Sum.elim_inr] at h ⊢
        refine lf_blk B_Tape_isWord_65 ?_
        refine lf_iload rfl ?_
        refine lf_aload rfl ?_
        refine lf_getf (ci := 7) (k := 1) lf_a1 rfl (by decide) rfl ?_
        refine lf_icmp_eq h (fun h => ?_) (fun h => ?_)
        · refine lf_blk B_Tape_isWord_95 ?_
          refine lf_iconst lf_c1 ?_
          refine lf_goto ?_
          refine lf_blk B_Tape_isWord_100 ?_
          cases h
          exact lf_iret ⟨rfl, rfl, rfl⟩
        · refine lf_aload rfl ?_
          refine lf_getr (ci := 7) (k := 0) lf_a1 rfl (by decide) rfl ?_
          refine lf_iload rfl ?_
          refine lf_iald h lf_a2 ?_
          intro k9 h
          refine lf_iconst lf_c97 ?_
          refine lf_icmp_lt h (fun h => ?_) (fun h => ?_)
          · refine lf_blk B_Tape_isWord_95 ?_
            refine lf_iconst lf_c1 ?_
            refine lf_goto ?_
            refine lf_blk B_Tape_isWord_100 ?_
            cases h
            exact lf_iret ⟨rfl, rfl, rfl⟩
          · refine lf_aload rfl ?_
            refine lf_getr (ci := 7) (k := 0) lf_a1 rfl (by decide) rfl ?_
            refine lf_iload rfl ?_
            refine lf_iald h lf_a2 ?_
            intro k10 h
            refine lf_iconst lf_c122 ?_
            refine lf_icmp_le h (fun h => ?_) (fun h => ?_)
            · refine lf_blk B_Tape_isWord_99 ?_
              refine lf_iconst lf_c0 ?_
              refine lf_end ?_
              refine lf_blk B_Tape_isWord_100 ?_
              cases h
              exact lf_iret ⟨rfl, rfl, rfl⟩
            · refine lf_end ?_
              refine lf_blk B_Tape_isWord_95 ?_
              refine lf_iconst lf_c1 ?_
              refine lf_goto ?_
              refine lf_blk B_Tape_isWord_100 ?_
              cases h
              exact lf_iret ⟨rfl, rfl, rfl⟩
      | inr q8 =>
        dsimp only [Sum.elim_inl, Sum.elim_inr] at h ⊢
        cases h
        exact ⟨rfl, rfl, rfl⟩
    · refine lf_end ?_
      refine lf_blk B_Tape_isWord_26 ?_
      refine lf_iconst lf_c0 ?_
      cases h
      exact lf_iret ⟨rfl, rfl, rfl⟩
theorem s_Tape_takeWord {sc : Nat × (Nat → Int32)} {t1 : Nat} (ht1 : t1 < 71) {s : lf_S} {p : (Bool × lf_S)} (h : f_Tape_takeWord t1 s = some p) : lf_ok sc 2 j_Tape_takeWord [.ref 1, .ref (mj_SC + 1 + t1)] s (some (.int (lf_i p.1))) p.2 := by
  refine lf_in (D := 1) (ls := [.ref 1, .ref (mj_SC + 1 + t1), mj_U]) rfl lf_zb rfl ?_
  intro d hd cl rc rs
  unfold f_Tape_takeWord at h
  refine lf_blk B_Tape_takeWord_0 ?_
  refine lf_aload rfl ?_
  refine lf_aload rfl ?_
  refine lf_callVRb (as := [.ref (mj_SC + 1 + t1)]) (rest := []) h rfl rfl lf_a1 rfl (Nat.le_trans (by decide) hd) rfl rfl (fun p1 h9 => s_Tape_isWord ht1 h9) ?_
  intro p1 h
  refine lf_istoreb (L := fun e2 => [.ref 1, .ref (mj_SC + 1 + t1), .int (lf_i e2)]) h rfl rfl (fun _ => rfl) ?_
  intro e2 h
  refine lf_iload rfl ?_
  refine lf_ifb_eq h (fun h => ?_) (fun h => ?_)
  · refine lf_blk B_Tape_takeWord_23 ?_
    refine lf_iload rfl ?_
    cases h
    exact lf_iret ⟨rfl, rfl, rfl⟩
  · refine lf_aload rfl ?_
    refine lf_aload rfl ?_
    refine lf_getf (ci := 7) (k := 3) lf_a1 rfl (by decide) rfl ?_
    refine lf_aload rfl ?_
    refine lf_len ht1 rfl ?_
    refine lf_iadd ?_
    refine lf_callVWu (as := [.int ((s.1 1 3) + (nI (mj_tx t1).length))]) (rest := []) h rfl rfl lf_a1 rfl (Nat.le_trans (by decide) hd) rfl rfl (fun p3 h9 => s_Tape_moveTo h9) ?_
    intro p3 h
    refine lf_end ?_
    refine lf_blk B_Tape_takeWord_23 ?_
    refine lf_iload rfl ?_
    cases h
    exact lf_iret ⟨rfl, rfl, rfl⟩
theorem s_Tape_needWord {sc : Nat × (Nat → Int32)} {t1 : Nat} (ht1 : t1 < 71) {s : lf_S} {p : (lf_S)} (h : f_Tape_needWord t1 s = some p) : lf_ok sc 3 j_Tape_needWord [.ref 1, .ref (mj_SC + 1 + t1)] s (none) p := by
  refine lf_in (D := 2) (ls := [.ref 1, .ref (mj_SC + 1 + t1)]) rfl (lf_zi (by decide +kernel)) rfl ?_
  intro d hd cl rc rs
  unfold f_Tape_needWord at h
  refine lf_blk B_Tape_needWord_0 ?_
  refine lf_aload rfl ?_
  refine lf_aload rfl ?_
  refine lf_callVWb (as := [.ref (mj_SC + 1 + t1)]) (rest := []) h rfl rfl lf_a1 rfl (Nat.le_trans (by decide) hd) rfl rfl (fun p1 h9 => s_Tape_takeWord ht1 h9) ?_
  intro p1 h
  refine lf_ifb_ne h (fun h => ?_) (fun h => ?_)
  · refine lf_blk B_Tape_needWord_12 ?_
    cases h
    exact lf_ret ⟨rfl, rfl, rfl⟩
  · refine lf_aload rfl ?_
    refine lf_callVWu (as := []) (rest := []) h rfl rfl lf_a1 rfl (Nat.le_trans (by decide) hd) rfl rfl (fun p2 h9 => s_Tape_fail h9) ?_
    intro p2 h
    refine lf_end ?_
    refine lf_blk B_Tape_needWord_12 ?_
    cases h
    exact lf_ret ⟨rfl, rfl, rfl⟩
theorem s_Tape_isDigit {sc : Nat × (Nat → Int32)} {x0 : Int32} {s : lf_S} {p : Bool} (h : f_Tape_isDigit x0 = some p) : lf_ok sc 1 j_Tape_isDigit [.int x0] s (some (.int (lf_i p))) s := by
  refine lf_in (D := 0) (ls := [.int x0]) rfl lf_zb rfl ?_
  intro d hd cl rc rs
  unfold f_Tape_isDigit at h
  refine lf_blk B_Tape_isDigit_0 ?_
  refine lf_iload rfl ?_
  refine lf_iconst lf_c48 ?_
  refine lf_icmp_lt h (fun h => ?_) (fun h => ?_)
  · refine lf_blk B_Tape_isDigit_16 ?_
    refine lf_iconst lf_c0 ?_
    refine lf_end ?_
    refine lf_blk B_Tape_isDigit_17 ?_
    cases h
    exact lf_iret ⟨rfl, rfl, rfl⟩
  · refine lf_iload rfl ?_
    refine lf_iconst lf_c57 ?_
    refine lf_icmp_gt h (fun h => ?_) (fun h => ?_)
    · refine lf_blk B_Tape_isDigit_16 ?_
      refine lf_iconst lf_c0 ?_
      refine lf_end ?_
      refine lf_blk B_Tape_isDigit_17 ?_
      cases h
      exact lf_iret ⟨rfl, rfl, rfl⟩
    · refine lf_iconst lf_c1 ?_
      refine lf_goto ?_
      refine lf_blk B_Tape_isDigit_17 ?_
      cases h
      exact lf_iret ⟨rfl, rfl, rfl⟩
theorem s_Tape_takeNumber_8 {sc : Nat × (Nat → Int32)} {d : Nat} {Q : mj_Q} {cl : Bool} {rc rs : Nat} {c1 : Int32} {c2 : Int32} {p : Int32 × Int32 × lf_S} (hd : 1 ≤ d) (hk : lf_wp sc d j_Tape_takeNumber Q 61 [.ref 1, .int c1, .int c2, .int p.1, .int p.2.1] [] (lf_hp p.2.2) cl rc rs) : ∀ (n : Nat) (v3 : Int32) (v4 : Int32) (s : lf_S), f_Tape_takeNumber_8 c1 c2 n v3 v4 s = some p → lf_wp sc d j_Tape_takeNumber Q 8 [.ref 1, .int c1, .int c2, .int v3, .int v4] [] (lf_hp s) cl rc rs := by
  intro n
  induction n with
  | zero =>
    intro v3 v4 s h
    exact absurd h (fun z => by cases z)
  | succ n ih =>
    intro v3 v4 s h
    unfold f_Tape_takeNumber_8 at h
    refine lf_blk B_Tape_takeNumber_8 ?_
    refine lf_iload rfl ?_
    refine lf_aload rfl ?_
    refine lf_getf (ci := 7) (k := 1) lf_a1 rfl (by decide) rfl ?_
    refine lf_icmp_ge h (fun h => ?_) (fun h => ?_)
    · rw [← Option.some.inj h] at hk
      exact mj_w_weak (ls := [.ref 1, .int c1, .int c2, .int v3, .int v4]) (lf_rl (lf_rl (lf_rl (lf_rl (lf_rl (lf_r0)))))) hk
    · refine lf_iload rfl ?_
      refine lf_aload rfl ?_
      refine lf_getf (ci := 7) (k := 3) lf_a1 rfl (by decide) rfl ?_
      refine lf_isub ?_
      refine lf_iconst lf_c3 ?_
      refine lf_icmp_gt h (fun h => ?_) (fun h => ?_)
      · rw [← Option.some.inj h] at hk
        exact mj_w_weak (ls := [.ref 1, .int c1, .int c2, .int v3, .int v4]) (lf_rl (lf_rl (lf_rl (lf_rl (lf_rl (lf_r0)))))) hk
      · refine lf_aload rfl ?_
        refine lf_getr (ci := 7) (k := 0) lf_a1 rfl (by decide) rfl ?_
        refine lf_iload rfl ?_
        refine lf_iald h lf_a2 ?_
        intro k3 h
        refine lf_callSRb (as := [.int (s.1 2 k3)]) (rest := []) h rfl rfl (Nat.le_trans (by decide) hd) rfl rfl (fun p4 h9 => s_Tape_isDigit h9) ?_
        intro p4 h
        refine lf_ifb_eq h (fun h => ?_) (fun h => ?_)
        · rw [← Option.some.inj h] at hk
          exact mj_w_weak (ls := [.ref 1, .int c1, .int c2, .int v3, .int v4]) (lf_rl (lf_rl (lf_rl (lf_rl (lf_rl (lf_r0)))))) hk
        · refine lf_iconst lf_c10 ?_
          refine lf_iload rfl ?_
          refine lf_imul ?_
          refine lf_aload rfl ?_
          refine lf_getr (ci := 7) (k := 0) lf_a1 rfl (by decide) rfl ?_
          refine lf_iload rfl ?_
          refine lf_iald h lf_a2 ?_
          intro k5 h
          refine lf_iadd ?_
          refine lf_iconst lf_c48 ?_
          refine lf_isub ?_
          refine lf_istore (L := fun y6 => [.ref 1, .int c1, .int c2, .int v3, .int y6]) h rfl rfl (fun _ => rfl) ?_
          intro y6 h
          refine lf_iinc (L := fun y7 => [.ref 1, .int c1, .int c2, .int y7, .int y6]) h lf_c1 rfl rfl (fun _ => rfl) ?_
          intro y7 h
          refine lf_goto ?_
          exact mj_w_weak (ls := [.ref 1, .int c1, .int c2, .int y7, .int y6]) (lf_rl (lf_rl (lf_rl (lf_rl (lf_rl (lf_r0)))))) (ih y7 y6 s h)
theorem s_Tape_takeNumber {sc : Nat × (Nat → Int32)} {x1 : Int32} {x2 : Int32} {s : lf_S} {p : (Int32 × lf_S)} (h : f_Tape_takeNumber x1 x2 s = some p) : lf_ok sc 2 j_Tape_takeNumber [.ref 1, .int x1, .int x2] s (some (.int p.1)) p.2 := by
  refine lf_in (D := 1) (ls := [.ref 1, .int x1, .int x2, mj_U, mj_U]) rfl (lf_zi (by decide +kernel)) rfl ?_
  intro d hd cl rc rs
  unfold f_Tape_takeNumber at h
  refine lf_blk B_Tape_takeNumber_0 ?_
  refine lf_aload rfl ?_
  refine lf_getf (ci := 7) (k := 3) lf_a1 rfl (by decide) rfl ?_
  refine lf_istore (L := fun y1 => [.ref 1, .int x1, .int x2, .int y1, mj_U]) h rfl rfl (fun _ => rfl) ?_
  intro y1 h
  refine lf_iconst lf_c0 ?_
  refine lf_istore (L := fun y2 => [.ref 1, .int x1, .int x2, .int y1, .int y2]) h rfl rfl (fun _ => rfl) ?_
  intro y2 h
  refine lf_end ?_
  refine lf_loop h (fun p8 hp8 h => ?_)
  refine mj_w_weak (ls := [.ref 1, .int x1, .int x2, .int y1, .int y2]) (lf_rl (lf_rl (lf_rl (lf_rl (lf_rl (lf_r0)))))) ?_
  refine s_Tape_takeNumber_8 (Nat.le_trans (by decide) hd) ?_ 5000 y1 y2 s hp8
  refine lf_blk B_Tape_takeNumber_61 ?_
  refine lf_iload rfl ?_
  refine lf_aload rfl ?_
  refine lf_getf (ci := 7) (k := 3) lf_a1 rfl (by decide) rfl ?_
  refine lf_icmp_eq h (fun h => ?_) (fun h => ?_)
  · refine lf_blk B_Tape_takeNumber_91 ?_
    refine lf_aload rfl ?_
    refine lf_callVWu (as := []) (rest := []) h rfl rfl lf_a1 rfl (Nat.le_trans (by decide) hd) rfl rfl (fun p9 h9 => s_Tape_fail h9) ?_
    intro p9 h
    refine lf_end ?_
    refine lf_blk B_Tape_takeNumber_95 ?_
    refine lf_aload rfl ?_
    refine lf_callVRb (as := []) (rest := []) h rfl rfl lf_a1 rfl (Nat.le_trans (by decide) hd) rfl rfl (fun p10 h9 => s_Tape_failed h9) ?_
    intro p10 h
    refine lf_ifb_eq h (fun h => ?_) (fun h => ?_)
    · refine lf_blk B_Tape_takeNumber_104 ?_
      refine lf_aload rfl ?_
      refine lf_iload rfl ?_
      refine lf_callVWu (as := [.int p8.1]) (rest := []) h rfl rfl lf_a1 rfl (Nat.le_trans (by decide) hd) rfl rfl (fun p11 h9 => s_Tape_moveTo h9) ?_
      intro p11 h
      refine lf_iload rfl ?_
      cases h
      exact lf_iret ⟨rfl, rfl, rfl⟩
    · refine lf_iload rfl ?_
      cases h
      exact lf_iret ⟨rfl, rfl, rfl⟩
  · refine lf_iload rfl ?_
    refine lf_aload rfl ?_
    refine lf_getf (ci := 7) (k := 3) lf_a1 rfl (by decide) rfl ?_
    refine lf_isub ?_
    refine lf_iconst lf_c3 ?_
    refine lf_icmp_gt h (fun h => ?_) (fun h => ?_)
    · refine lf_blk B_Tape_takeNumber_91 ?_
      refine lf_aload rfl ?_
      refine lf_callVWu (as := []) (rest := []) h rfl rfl lf_a1 rfl (Nat.le_trans (by decide) hd) rfl rfl (fun p12 h9 => s_Tape_fail h9) ?_
      intro p12 h
      refine lf_end ?_
      refine lf_blk B_Tape_takeNumber_95 ?_
      refine lf_aload rfl ?_
      refine lf_callVRb (as := []) (rest := []) h rfl rfl lf_a1 rfl (Nat.le_trans (by decide) hd) rfl rfl (fun p13 h9 => s_Tape_failed h9) ?_
      intro p13 h
      refine lf_ifb_eq h (fun h => ?_) (fun h => ?_)
      · refine lf_blk B_Tape_takeNumber_104 ?_
        refine lf_aload rfl ?_
        refine lf_iload rfl ?_
        refine lf_callVWu (as := [.int p8.1]) (rest := []) h rfl rfl lf_a1 rfl (Nat.le_trans (by decide) hd) rfl rfl (fun p14 h9 => s_Tape_moveTo h9) ?_
        intro p14 h
        refine lf_iload rfl ?_
        cases h
        exact lf_iret ⟨rfl, rfl, rfl⟩
      · refine lf_iload rfl ?_
        cases h
        exact lf_iret ⟨rfl, rfl, rfl⟩
    · refine lf_iload rfl ?_
      refine lf_iload rfl ?_
      refine lf_icmp_lt h (fun h => ?_) (fun h => ?_)
      · refine lf_blk B_Tape_takeNumber_91 ?_
        refine lf_aload rfl ?_
        refine lf_callVWu (as := []) (rest := []) h rfl rfl lf_a1 rfl (Nat.le_trans (by decide) hd) rfl rfl (fun p15 h9 => s_Tape_fail h9) ?_
        intro p15 h
        refine lf_end ?_
        refine lf_blk B_Tape_takeNumber_95 ?_
        refine lf_aload rfl ?_
        refine lf_callVRb (as := []) (rest := []) h rfl rfl lf_a1 rfl (Nat.le_trans (by decide) hd) rfl rfl (fun p16 h9 => s_Tape_failed h9) ?_
        intro p16 h
        refine lf_ifb_eq h (fun h => ?_) (fun h => ?_)
        · refine lf_blk B_Tape_takeNumber_104 ?_
          refine lf_aload rfl ?_
          refine lf_iload rfl ?_
          refine lf_callVWu (as := [.int p8.1]) (rest := []) h rfl rfl lf_a1 rfl (Nat.le_trans (by decide) hd) rfl rfl (fun p17 h9 => s_Tape_moveTo h9) ?_
          intro p17 h
          refine lf_iload rfl ?_
          cases h
          exact lf_iret ⟨rfl, rfl, rfl⟩
        · refine lf_iload rfl ?_
          cases h
          exact lf_iret ⟨rfl, rfl, rfl⟩
      · refine lf_iload rfl ?_
        refine lf_iload rfl ?_
        refine lf_icmp_le h (fun h => ?_) (fun h => ?_)
        · refine lf_blk B_Tape_takeNumber_95 ?_
          refine lf_aload rfl ?_
          refine lf_callVRb (as := []) (rest := []) h rfl rfl lf_a1 rfl (Nat.le_trans (by decide) hd) rfl rfl (fun p18 h9 => s_Tape_failed h9) ?_
          intro p18 h
          refine lf_ifb_eq h (fun h => ?_) (fun h => ?_)
          · refine lf_blk B_Tape_takeNumber_104 ?_
            refine lf_aload rfl ?_
            refine lf_iload rfl ?_
            refine lf_callVWu (as := [.int p8.1]) (rest := []) h rfl rfl lf_a1 rfl (Nat.le_trans (by decide) hd) rfl rfl (fun p19 h9 => s_Tape_moveTo h9) ?_
            intro p19 h
            refine lf_iload rfl ?_
            cases h
            exact lf_iret ⟨rfl, rfl, rfl⟩
          · refine lf_iload rfl ?_
            cases h
            exact lf_iret ⟨rfl, rfl, rfl⟩
        · refine lf_end ?_
          refine lf_blk B_Tape_takeNumber_91 ?_
          refine lf_aload rfl ?_
          refine lf_callVWu (as := []) (rest := []) h rfl rfl lf_a1 rfl (Nat.le_trans (by decide) hd) rfl rfl (fun p20 h9 => s_Tape_fail h9) ?_
          intro p20 h
          refine lf_end ?_
          refine lf_blk B_Tape_takeNumber_95 ?_
          refine lf_aload rfl ?_
          refine lf_callVRb (as := []) (rest := []) h rfl rfl lf_a1 rfl (Nat.le_trans (by decide) hd) rfl rfl (fun p21 h9 => s_Tape_failed h9) ?_
          intro p21 h
          refine lf_ifb_eq h (fun h => ?_) (fun h => ?_)
          · refine lf_blk B_Tape_takeNumber_104 ?_
            refine lf_aload rfl ?_
            refine lf_iload rfl ?_
            refine lf_callVWu (as := [.int p8.1]) (rest := []) h rfl rfl lf_a1 rfl (Nat.le_trans (by decide) hd) rfl rfl (fun p22 h9 => s_Tape_moveTo h9) ?_
            intro p22 h
            refine lf_iload rfl ?_
            cases h
            exact lf_iret ⟨rfl, rfl, rfl⟩
          · refine lf_iload rfl ?_
            cases h
            exact lf_iret ⟨rfl, rfl, rfl⟩
theorem s_Beds_add {sc : Nat × (Nat → Int32)} {b : Nat} {x1 : Int32} {x2 : Int32} {x3 : Int32} {x4 : Int32} (hb : lf_Beds b) {s : lf_S} {p : (lf_S)} (h : f_Beds_add b x1 x2 x3 x4 s = some p) : lf_ok sc 1 j_Beds_add [.ref b, .int x1, .int x2, .int x3, .int x4] s (none) p := by
  refine lf_in (D := 0) (ls := [.ref b, .int x1, .int x2, .int x3, .int x4]) rfl (lf_zi (by decide +kernel)) rfl ?_
  intro d hd cl rc rs
  unfold f_Beds_add at h
  refine lf_blk B_Beds_add_0 ?_
  refine lf_aload rfl ?_
  refine lf_getf (ci := 1) (k := 0) (lf_Beds_0 hb) rfl (by decide) rfl ?_
  refine lf_iconst lf_c6 ?_
  refine lf_icmp_ge h (fun h => ?_) (fun h => ?_)
  · refine lf_blk B_Beds_add_60 ?_
    cases h
    exact lf_ret ⟨rfl, rfl, rfl⟩
  · refine lf_aload rfl ?_
    refine lf_getr (ci := 1) (k := 1) (lf_Beds_0 hb) rfl (by decide) rfl ?_
    refine lf_aload rfl ?_
    refine lf_getf (ci := 1) (k := 0) (lf_Beds_0 hb) rfl (by decide) rfl ?_
    refine lf_iload rfl ?_
    refine lf_iast h (lf_Beds_1 hb) ?_
    intro s2 h
    refine lf_aload rfl ?_
    refine lf_getr (ci := 1) (k := 2) (lf_Beds_0 hb) rfl (by decide) rfl ?_
    refine lf_aload rfl ?_
    refine lf_getf (ci := 1) (k := 0) (lf_Beds_0 hb) rfl (by decide) rfl ?_
    refine lf_iload rfl ?_
    refine lf_iast h (lf_Beds_2 hb) ?_
    intro s4 h
    refine lf_aload rfl ?_
    refine lf_getr (ci := 1) (k := 3) (lf_Beds_0 hb) rfl (by decide) rfl ?_
    refine lf_aload rfl ?_
    refine lf_getf (ci := 1) (k := 0) (lf_Beds_0 hb) rfl (by decide) rfl ?_
    refine lf_iload rfl ?_
    refine lf_iast h (lf_Beds_3 hb) ?_
    intro s6 h
    refine lf_aload rfl ?_
    refine lf_getr (ci := 1) (k := 4) (lf_Beds_0 hb) rfl (by decide) rfl ?_
    refine lf_aload rfl ?_
    refine lf_getf (ci := 1) (k := 0) (lf_Beds_0 hb) rfl (by decide) rfl ?_
    refine lf_iload rfl ?_
    refine lf_iast h (lf_Beds_4 hb) ?_
    intro s8 h
    refine lf_aload rfl ?_
    refine lf_dupr ?_
    refine lf_getf (ci := 1) (k := 0) (lf_Beds_0 hb) rfl (by decide) rfl ?_
    refine lf_iconst lf_c1 ?_
    refine lf_iadd ?_
    refine lf_putf (ci := 1) (k := 0) h (lf_Beds_0 hb) rfl (by decide) rfl rfl rfl ?_
    intro s9 h
    refine lf_end ?_
    refine lf_blk B_Beds_add_60 ?_
    cases h
    exact lf_ret ⟨rfl, rfl, rfl⟩
theorem s_Baskets_beginWeave {sc : Nat × (Nat → Int32)} {b : Nat} {x1 : Int32} (hb : lf_Baskets b) {s : lf_S} {p : (lf_S)} (h : f_Baskets_beginWeave b x1 s = some p) : lf_ok sc 1 j_Baskets_beginWeave [.ref b, .int x1] s (none) p := by
  refine lf_in (D := 0) (ls := [.ref b, .int x1]) rfl (lf_zi (by decide +kernel)) rfl ?_
  intro d hd cl rc rs
  unfold f_Baskets_beginWeave at h
  refine lf_blk B_Baskets_beginWeave_0 ?_
  refine lf_aload rfl ?_
  refine lf_getr (ci := 0) (k := 5) (lf_Baskets_0 hb) rfl (by decide) rfl ?_
  refine lf_iload rfl ?_
  refine lf_iconst lf_c0 ?_
  refine lf_iast h (lf_Baskets_5 hb) ?_
  intro s2 h
  refine lf_aload rfl ?_
  refine lf_getr (ci := 0) (k := 6) (lf_Baskets_0 hb) rfl (by decide) rfl ?_
  refine lf_iload rfl ?_
  refine lf_iconst lf_c0 ?_
  refine lf_iast h (lf_Baskets_6 hb) ?_
  intro s4 h
  refine lf_aload rfl ?_
  refine lf_getr (ci := 0) (k := 8) (lf_Baskets_0 hb) rfl (by decide) rfl ?_
  refine lf_iload rfl ?_
  refine lf_iconst lf_c0 ?_
  refine lf_iast h (lf_Baskets_8 hb) ?_
  intro s6 h
  cases h
  exact lf_ret ⟨rfl, rfl, rfl⟩
theorem s_Tape_isNumber {sc : Nat × (Nat → Int32)} {s : lf_S} {p : Bool} (h : f_Tape_isNumber s = some p) : lf_ok sc 2 j_Tape_isNumber [.ref 1] s (some (.int (lf_i p))) s := by
  refine lf_in (D := 1) (ls := [.ref 1]) rfl lf_zb rfl ?_
  intro d hd cl rc rs
  unfold f_Tape_isNumber at h
  refine lf_blk B_Tape_isNumber_0 ?_
  refine lf_aload rfl ?_
  refine lf_callVRb (as := []) (rest := []) h rfl rfl lf_a1 rfl (Nat.le_trans (by decide) hd) rfl rfl (fun p1 h9 => s_Tape_failed h9) ?_
  intro p1 h
  refine lf_ifb_ne h (fun h => ?_) (fun h => ?_)
  · refine lf_blk B_Tape_isNumber_37 ?_
    refine lf_iconst lf_c0 ?_
    refine lf_end ?_
    refine lf_blk B_Tape_isNumber_38 ?_
    cases h
    exact lf_iret ⟨rfl, rfl, rfl⟩
  · refine lf_aload rfl ?_
    refine lf_getf (ci := 7) (k := 3) lf_a1 rfl (by decide) rfl ?_
    refine lf_aload rfl ?_
    refine lf_getf (ci := 7) (k := 1) lf_a1 rfl (by decide) rfl ?_
    refine lf_icmp_ge h (fun h => ?_) (fun h => ?_)
    · refine lf_blk B_Tape_isNumber_37 ?_
      refine lf_iconst lf_c0 ?_
      refine lf_end ?_
      refine lf_blk B_Tape_isNumber_38 ?_
      cases h
      exact lf_iret ⟨rfl, rfl, rfl⟩
    · refine lf_aload rfl ?_
      refine lf_getr (ci := 7) (k := 0) lf_a1 rfl (by decide) rfl ?_
      refine lf_aload rfl ?_
      refine lf_getf (ci := 7) (k := 3) lf_a1 rfl (by decide) rfl ?_
      refine lf_iald h lf_a2 ?_
      intro k2 h
      refine lf_callSRb (as := [.int (s.1 2 k2)]) (rest := []) h rfl rfl (Nat.le_trans (by decide) hd) rfl rfl (fun p3 h9 => s_Tape_isDigit h9) ?_
      intro p3 h
      refine lf_ifb_eq h (fun h => ?_) (fun h => ?_)
      · refine lf_blk B_Tape_isNumber_37 ?_
        refine lf_iconst lf_c0 ?_
        refine lf_end ?_
        refine lf_blk B_Tape_isNumber_38 ?_
        cases h
        exact lf_iret ⟨rfl, rfl, rfl⟩
      · refine lf_iconst lf_c1 ?_
        refine lf_goto ?_
        refine lf_blk B_Tape_isNumber_38 ?_
        cases h
        exact lf_iret ⟨rfl, rfl, rfl⟩
theorem s_Baskets_addRun {sc : Nat × (Nat → Int32)} {b : Nat} {x1 : Int32} {x2 : Int32} (hb : lf_Baskets b) {s : lf_S} {p : (lf_S)} (h : f_Baskets_addRun b x1 x2 s = some p) : lf_ok sc 1 j_Baskets_addRun [.ref b, .int x1, .int x2] s (none) p := by
  refine lf_in (D := 0) (ls := [.ref b, .int x1, .int x2, mj_U]) rfl (lf_zi (by decide +kernel)) rfl ?_
  intro d hd cl rc rs
  unfold f_Baskets_addRun at h
  refine lf_blk B_Baskets_addRun_0 ?_
  refine lf_aload rfl ?_
  refine lf_getr (ci := 0) (k := 5) (lf_Baskets_0 hb) rfl (by decide) rfl ?_
  refine lf_iload rfl ?_
  refine lf_iald h (lf_Baskets_5 hb) ?_
  intro k1 h
  refine lf_istore (L := fun y2 => [.ref b, .int x1, .int x2, .int y2]) h rfl rfl (fun _ => rfl) ?_
  intro y2 h
  refine lf_iload rfl ?_
  refine lf_iconst lf_c6 ?_
  refine lf_icmp_lt h (fun h => ?_) (fun h => ?_)
  · refine lf_blk B_Baskets_addRun_14 ?_
    refine lf_iload rfl ?_
    refine lf_iconst lf_c2 ?_
    refine lf_irem (by decide) ?_
    refine lf_if_ne h (fun h => ?_) (fun h => ?_)
    · refine lf_blk B_Baskets_addRun_41 ?_
      refine lf_aload rfl ?_
      refine lf_getr (ci := 0) (k := 7) (lf_Baskets_0 hb) rfl (by decide) rfl ?_
      refine lf_iload rfl ?_
      refine lf_iconst lf_c6 ?_
      refine lf_imul ?_
      refine lf_iload rfl ?_
      refine lf_iadd ?_
      refine lf_iload rfl ?_
      refine lf_iast h (lf_Baskets_7 hb) ?_
      intro s4 h
      refine lf_aload rfl ?_
      refine lf_getr (ci := 0) (k := 6) (lf_Baskets_0 hb) rfl (by decide) rfl ?_
      refine lf_iload rfl ?_
      refine lf_dup2 ?_
      refine lf_iald h (lf_Baskets_6 hb) ?_
      intro k5 h
      refine lf_iload rfl ?_
      refine lf_iadd ?_
      refine lf_iast h (lf_Baskets_6 hb) ?_
      intro s7 h
      refine lf_aload rfl ?_
      refine lf_getr (ci := 0) (k := 5) (lf_Baskets_0 hb) rfl (by decide) rfl ?_
      refine lf_iload rfl ?_
      refine lf_dup2 ?_
      refine lf_iald h (lf_Baskets_5 hb) ?_
      intro k8 h
      refine lf_iconst lf_c1 ?_
      refine lf_iadd ?_
      refine lf_iast h (lf_Baskets_5 hb) ?_
      intro s10 h
      cases h
      exact lf_ret ⟨rfl, rfl, rfl⟩
    · refine lf_aload rfl ?_
      refine lf_getr (ci := 0) (k := 8) (lf_Baskets_0 hb) rfl (by decide) rfl ?_
      refine lf_iload rfl ?_
      refine lf_dup2 ?_
      refine lf_iald h (lf_Baskets_8 hb) ?_
      intro k11 h
      refine lf_iconst lf_c1 ?_
      refine lf_iload rfl ?_
      refine lf_ishl ?_
      refine lf_iconst lf_c1 ?_
      refine lf_isub ?_
      refine lf_aload rfl ?_
      refine lf_getr (ci := 0) (k := 6) (lf_Baskets_0 hb) rfl (by decide) rfl ?_
      refine lf_iload rfl ?_
      refine lf_iald h (lf_Baskets_6 hb) ?_
      intro k12 h
      refine lf_ishl ?_
      refine lf_ior ?_
      refine lf_iast h (lf_Baskets_8 hb) ?_
      intro s14 h
      refine lf_end ?_
      refine lf_blk B_Baskets_addRun_41 ?_
      refine lf_aload rfl ?_
      refine lf_getr (ci := 0) (k := 7) (lf_Baskets_0 hb) rfl (by decide) rfl ?_
      refine lf_iload rfl ?_
      refine lf_iconst lf_c6 ?_
      refine lf_imul ?_
      refine lf_iload rfl ?_
      refine lf_iadd ?_
      refine lf_iload rfl ?_
      refine lf_iast h (lf_Baskets_7 hb) ?_
      intro s16 h
      refine lf_aload rfl ?_
      refine lf_getr (ci := 0) (k := 6) (lf_Baskets_0 hb) rfl (by decide) rfl ?_
      refine lf_iload rfl ?_
      refine lf_dup2 ?_
      refine lf_iald h (lf_Baskets_6 hb) ?_
      intro k17 h
      refine lf_iload rfl ?_
      refine lf_iadd ?_
      refine lf_iast h (lf_Baskets_6 hb) ?_
      intro s19 h
      refine lf_aload rfl ?_
      refine lf_getr (ci := 0) (k := 5) (lf_Baskets_0 hb) rfl (by decide) rfl ?_
      refine lf_iload rfl ?_
      refine lf_dup2 ?_
      refine lf_iald h (lf_Baskets_5 hb) ?_
      intro k20 h
      refine lf_iconst lf_c1 ?_
      refine lf_iadd ?_
      refine lf_iast h (lf_Baskets_5 hb) ?_
      intro s22 h
      cases h
      exact lf_ret ⟨rfl, rfl, rfl⟩
  · cases h
    exact lf_ret ⟨rfl, rfl, rfl⟩
theorem s_Hands_add {sc : Nat × (Nat → Int32)} {b : Nat} {x1 : Int32} {x2 : Int32} (hb : lf_Hands b) {s : lf_S} {p : (lf_S)} (h : f_Hands_add b x1 x2 s = some p) : lf_ok sc 1 j_Hands_add [.ref b, .int x1, .int x2] s (none) p := by
  refine lf_in (D := 0) (ls := [.ref b, .int x1, .int x2]) rfl (lf_zi (by decide +kernel)) rfl ?_
  intro d hd cl rc rs
  unfold f_Hands_add at h
  refine lf_blk B_Hands_add_0 ?_
  refine lf_aload rfl ?_
  refine lf_getf (ci := 2) (k := 0) (lf_Hands_0 hb) rfl (by decide) rfl ?_
  refine lf_iconst lf_c5 ?_
  refine lf_icmp_ge h (fun h => ?_) (fun h => ?_)
  · refine lf_blk B_Hands_add_38 ?_
    cases h
    exact lf_ret ⟨rfl, rfl, rfl⟩
  · refine lf_aload rfl ?_
    refine lf_getr (ci := 2) (k := 1) (lf_Hands_0 hb) rfl (by decide) rfl ?_
    refine lf_aload rfl ?_
    refine lf_getf (ci := 2) (k := 0) (lf_Hands_0 hb) rfl (by decide) rfl ?_
    refine lf_iload rfl ?_
    refine lf_iast h (lf_Hands_1 hb) ?_
    intro s2 h
    refine lf_aload rfl ?_
    refine lf_getr (ci := 2) (k := 2) (lf_Hands_0 hb) rfl (by decide) rfl ?_
    refine lf_aload rfl ?_
    refine lf_getf (ci := 2) (k := 0) (lf_Hands_0 hb) rfl (by decide) rfl ?_
    refine lf_iload rfl ?_
    refine lf_iast h (lf_Hands_2 hb) ?_
    intro s4 h
    refine lf_aload rfl ?_
    refine lf_dupr ?_
    refine lf_getf (ci := 2) (k := 0) (lf_Hands_0 hb) rfl (by decide) rfl ?_
    refine lf_iconst lf_c1 ?_
    refine lf_iadd ?_
    refine lf_putf (ci := 2) (k := 0) h (lf_Hands_0 hb) rfl (by decide) rfl rfl rfl ?_
    intro s5 h
    refine lf_end ?_
    refine lf_blk B_Hands_add_38 ?_
    cases h
    exact lf_ret ⟨rfl, rfl, rfl⟩
theorem s_Orders_add {sc : Nat × (Nat → Int32)} {b : Nat} {x1 : Int32} {x2 : Int32} (hb : lf_Orders b) {s : lf_S} {p : (lf_S)} (h : f_Orders_add b x1 x2 s = some p) : lf_ok sc 1 j_Orders_add [.ref b, .int x1, .int x2] s (none) p := by
  refine lf_in (D := 0) (ls := [.ref b, .int x1, .int x2]) rfl (lf_zi (by decide +kernel)) rfl ?_
  intro d hd cl rc rs
  unfold f_Orders_add at h
  refine lf_blk B_Orders_add_0 ?_
  refine lf_aload rfl ?_
  refine lf_getf (ci := 6) (k := 0) (lf_Orders_0 hb) rfl (by decide) rfl ?_
  refine lf_iconst lf_c6 ?_
  refine lf_icmp_ge h (fun h => ?_) (fun h => ?_)
  · refine lf_blk B_Orders_add_54 ?_
    cases h
    exact lf_ret ⟨rfl, rfl, rfl⟩
  · refine lf_aload rfl ?_
    refine lf_getr (ci := 6) (k := 2) (lf_Orders_0 hb) rfl (by decide) rfl ?_
    refine lf_aload rfl ?_
    refine lf_getf (ci := 6) (k := 0) (lf_Orders_0 hb) rfl (by decide) rfl ?_
    refine lf_iload rfl ?_
    refine lf_iast h (lf_Orders_1 hb) ?_
    intro s2 h
    refine lf_aload rfl ?_
    refine lf_getr (ci := 6) (k := 3) (lf_Orders_0 hb) rfl (by decide) rfl ?_
    refine lf_aload rfl ?_
    refine lf_getf (ci := 6) (k := 0) (lf_Orders_0 hb) rfl (by decide) rfl ?_
    refine lf_iload rfl ?_
    refine lf_iast h (lf_Orders_2 hb) ?_
    intro s4 h
    refine lf_aload rfl ?_
    refine lf_dupr ?_
    refine lf_getf (ci := 6) (k := 1) (lf_Orders_0 hb) rfl (by decide) rfl ?_
    refine lf_iconst lf_c1 ?_
    refine lf_aload rfl ?_
    refine lf_getf (ci := 6) (k := 0) (lf_Orders_0 hb) rfl (by decide) rfl ?_
    refine lf_ishl ?_
    refine lf_ior ?_
    refine lf_putf (ci := 6) (k := 1) h (lf_Orders_0 hb) rfl (by decide) rfl rfl rfl ?_
    intro s5 h
    refine lf_aload rfl ?_
    refine lf_dupr ?_
    refine lf_getf (ci := 6) (k := 0) (lf_Orders_0 hb) rfl (by decide) rfl ?_
    refine lf_iconst lf_c1 ?_
    refine lf_iadd ?_
    refine lf_putf (ci := 6) (k := 0) h (lf_Orders_0 hb) rfl (by decide) rfl rfl rfl ?_
    intro s6 h
    refine lf_end ?_
    refine lf_blk B_Orders_add_54 ?_
    cases h
    exact lf_ret ⟨rfl, rfl, rfl⟩
theorem s_Beds_partOf_4 {sc : Nat × (Nat → Int32)} {d : Nat} {Q : mj_Q} {cl : Bool} {rc rs : Nat} {b : Nat} {c1 : Int32} {s : lf_S} {p : Int32} (hb : lf_Beds b) (hd : 0 ≤ d) (hk : lf_wp sc d j_Beds_partOf Q 27 [.ref b, .int c1, .int p, mj_U] [] (lf_hp s) cl rc rs) : ∀ (n : Nat) (v2 : Int32) (v3 : Int32), f_Beds_partOf_4 b c1 n v2 v3 s = some p → lf_wp sc d j_Beds_partOf Q 4 [.ref b, .int c1, .int v2, .int v3] [] (lf_hp s) cl rc rs := by
  intro n
  induction n with
  | zero =>
    intro v2 v3 h
    exact absurd h (fun z => by cases z)
  | succ n ih =>
    intro v2 v3 h
    unfold f_Beds_partOf_4 at h
    refine lf_blk B_Beds_partOf_4 ?_
    refine lf_iload rfl ?_
    refine lf_aload rfl ?_
    refine lf_getf (ci := 1) (k := 0) (lf_Beds_0 hb) rfl (by decide) rfl ?_
    refine lf_icmp_ge h (fun h => ?_) (fun h => ?_)
    · rw [← Option.some.inj h] at hk
      exact mj_w_weak (ls := [.ref b, .int c1, .int v2, mj_U]) (lf_rl (lf_rl (lf_rl (lf_ri (lf_r0))))) hk
    · refine lf_iload rfl ?_
      refine lf_aload rfl ?_
      refine lf_getr (ci := 1) (k := 3) (lf_Beds_0 hb) rfl (by decide) rfl ?_
      refine lf_iload rfl ?_
      refine lf_iald h (lf_Beds_3 hb) ?_
      intro k3 h
      refine lf_iadd ?_
      refine lf_istore (L := fun y4 => [.ref b, .int c1, .int y4, .int v3]) h rfl rfl (fun _ => rfl) ?_
      intro y4 h
      refine lf_iinc (L := fun y5 => [.ref b, .int c1, .int y4, .int y5]) h lf_c1 rfl rfl (fun _ => rfl) ?_
      intro y5 h
      refine lf_goto ?_
      exact mj_w_weak (ls := [.ref b, .int c1, .int y4, .int y5]) (lf_rl (lf_rl (lf_rl (lf_rl (lf_r0))))) (ih y4 y5 h)
theorem s_Beds_partOf {sc : Nat × (Nat → Int32)} {b : Nat} {x1 : Int32} (hb : lf_Beds b) {s : lf_S} {p : Int32} (h : f_Beds_partOf b x1 s = some p) : lf_ok sc 1 j_Beds_partOf [.ref b, .int x1] s (some (.int p)) s := by
  refine lf_in (D := 0) (ls := [.ref b, .int x1, mj_U, mj_U]) rfl (lf_zi (by decide +kernel)) rfl ?_
  intro d hd cl rc rs
  unfold f_Beds_partOf at h
  refine lf_blk B_Beds_partOf_0 ?_
  refine lf_iconst lf_c0 ?_
  refine lf_istore (L := fun y1 => [.ref b, .int x1, .int y1, mj_U]) h rfl rfl (fun _ => rfl) ?_
  intro y1 h
  refine lf_iconst lf_c0 ?_
  refine lf_istore (L := fun y2 => [.ref b, .int x1, .int y1, .int y2]) h rfl rfl (fun _ => rfl) ?_
  intro y2 h
  refine lf_end ?_
  refine lf_loop h (fun p6 hp6 h => ?_)
  refine mj_w_weak (ls := [.ref b, .int x1, .int y1, .int y2]) (lf_rl (lf_rl (lf_rl (lf_rl (lf_r0))))) ?_
  refine s_Beds_partOf_4 hb (Nat.le_trans (by decide) hd) ?_ 5000 y1 y2 hp6
  refine lf_blk B_Beds_partOf_27 ?_
  refine lf_iload rfl ?_
  refine lf_iconst lf_c1 ?_
  refine lf_icmp_ge h (fun h => ?_) (fun h => ?_)
  · refine lf_blk B_Beds_partOf_36 ?_
    refine lf_iconst lf_c100 ?_
    refine lf_aload rfl ?_
    refine lf_getr (ci := 1) (k := 3) (lf_Beds_0 hb) rfl (by decide) rfl ?_
    refine lf_iload rfl ?_
    refine lf_iald h (lf_Beds_3 hb) ?_
    intro k7 h
    refine lf_imul ?_
    refine lf_iload rfl ?_
    refine lf_idivz h ?_
    intro h
    refine lf_end ?_
    refine lf_blk B_Beds_partOf_47 ?_
    cases h
    exact lf_iret ⟨rfl, rfl, rfl⟩
  · refine lf_iconst lf_c0 ?_
    refine lf_goto ?_
    refine lf_blk B_Beds_partOf_47 ?_
    cases h
    exact lf_iret ⟨rfl, rfl, rfl⟩
theorem s_Baskets_needOf {sc : Nat × (Nat → Int32)} {b : Nat} {x1 : Int32} (hb : lf_Baskets b) {s : lf_S} {p : Int32} (h : f_Baskets_needOf b x1 s = some p) : lf_ok sc 1 j_Baskets_needOf [.ref b, .int x1] s (some (.int p)) s := by
  refine lf_in (D := 0) (ls := [.ref b, .int x1, mj_U, mj_U]) rfl (lf_zi (by decide +kernel)) rfl ?_
  intro d hd cl rc rs
  unfold f_Baskets_needOf at h
  refine lf_blk B_Baskets_needOf_0 ?_
  refine lf_iconst lf_c12 ?_
  refine lf_aload rfl ?_
  refine lf_getr (ci := 0) (k := 3) (lf_Baskets_0 hb) rfl (by decide) rfl ?_
  refine lf_iload rfl ?_
  refine lf_iald h (lf_Baskets_3 hb) ?_
  intro k1 h
  refine lf_imul ?_
  refine lf_iconst lf_c2 ?_
  refine lf_isub ?_
  refine lf_istore (L := fun y2 => [.ref b, .int x1, .int y2, mj_U]) h rfl rfl (fun _ => rfl) ?_
  intro y2 h
  refine lf_iload rfl ?_
  refine lf_iconst lf_c1 ?_
  refine lf_icmp_ge h (fun h => ?_) (fun h => ?_)
  · refine lf_blk B_Baskets_needOf_19 ?_
    refine lf_aload rfl ?_
    refine lf_getr (ci := 0) (k := 1) (lf_Baskets_0 hb) rfl (by decide) rfl ?_
    refine lf_iload rfl ?_
    refine lf_iald h (lf_Baskets_1 hb) ?_
    intro k3 h
    refine lf_aload rfl ?_
    refine lf_getr (ci := 0) (k := 2) (lf_Baskets_0 hb) rfl (by decide) rfl ?_
    refine lf_iload rfl ?_
    refine lf_iald h (lf_Baskets_2 hb) ?_
    intro k4 h
    refine lf_imul ?_
    refine lf_iconst lf_c2 ?_
    refine lf_imul ?_
    refine lf_istore (L := fun y5 => [.ref b, .int x1, .int y2, .int y5]) h rfl rfl (fun _ => rfl) ?_
    intro y5 h
    refine lf_aload rfl ?_
    refine lf_getr (ci := 0) (k := 1) (lf_Baskets_0 hb) rfl (by decide) rfl ?_
    refine lf_iload rfl ?_
    refine lf_iald h (lf_Baskets_1 hb) ?_
    intro k6 h
    refine lf_iload rfl ?_
    refine lf_iload rfl ?_
    refine lf_iadd ?_
    refine lf_iconst lf_c1 ?_
    refine lf_isub ?_
    refine lf_iload rfl ?_
    refine lf_idivz h ?_
    intro h
    refine lf_iadd ?_
    cases h
    exact lf_iret ⟨rfl, rfl, rfl⟩
  · refine lf_iconst lf_c0 ?_
    cases h
    exact lf_iret ⟨rfl, rfl, rfl⟩
theorem s_Baskets_passesOver {sc : Nat × (Nat → Int32)} {b : Nat} {x1 : Int32} {x2 : Int32} (hb : lf_Baskets b) {s : lf_S} {p : Bool} (h : f_Baskets_passesOver b x1 x2 s = some p) : lf_ok sc 1 j_Baskets_passesOver [.ref b, .int x1, .int x2] s (some (.int (lf_i p))) s := by
  refine lf_in (D := 0) (ls := [.ref b, .int x1, .int x2, mj_U]) rfl lf_zb rfl ?_
  intro d hd cl rc rs
  unfold f_Baskets_passesOver at h
  refine lf_blk B_Baskets_passesOver_0 ?_
  refine lf_aload rfl ?_
  refine lf_getr (ci := 0) (k := 6) (lf_Baskets_0 hb) rfl (by decide) rfl ?_
  refine lf_iload rfl ?_
  refine lf_iald h (lf_Baskets_6 hb) ?_
  intro k1 h
  refine lf_istore (L := fun y2 => [.ref b, .int x1, .int x2, .int y2]) h rfl rfl (fun _ => rfl) ?_
  intro y2 h
  refine lf_iload rfl ?_
  refine lf_if_le h (fun h => ?_) (fun h => ?_)
  · refine lf_blk B_Baskets_passesOver_31 ?_
    refine lf_iconst lf_c0 ?_
    refine lf_end ?_
    refine lf_blk B_Baskets_passesOver_32 ?_
    cases h
    exact lf_iret ⟨rfl, rfl, rfl⟩
  · refine lf_aload rfl ?_
    refine lf_getr (ci := 0) (k := 8) (lf_Baskets_0 hb) rfl (by decide) rfl ?_
    refine lf_iload rfl ?_
    refine lf_iald h (lf_Baskets_8 hb) ?_
    intro k3 h
    refine lf_iload rfl ?_
    refine lf_iload rfl ?_
    refine lf_iremz h ?_
    intro h
    refine lf_ishr ?_
    refine lf_iconst lf_c1 ?_
    refine lf_iand ?_
    refine lf_iconst lf_c1 ?_
    refine lf_icmp_ne h (fun h => ?_) (fun h => ?_)
    · refine lf_blk B_Baskets_passesOver_31 ?_
      refine lf_iconst lf_c0 ?_
      refine lf_end ?_
      refine lf_blk B_Baskets_passesOver_32 ?_
      cases h
      exact lf_iret ⟨rfl, rfl, rfl⟩
    · refine lf_iconst lf_c1 ?_
      refine lf_goto ?_
      refine lf_blk B_Baskets_passesOver_32 ?_
      cases h
      exact lf_iret ⟨rfl, rfl, rfl⟩
theorem s_Baskets_isAlikeAfter_2 {sc : Nat × (Nat → Int32)} {d : Nat} {Q : mj_Q} {cl : Bool} {rc rs : Nat} {b : Nat} {c1 : Int32} {c2 : Int32} {s : lf_S} {p : (Unit) ⊕ (Bool)} (hb : lf_Baskets b) (hd : 1 ≤ d) (hk : Sum.elim (fun q0a => lf_wp sc d j_Baskets_isAlikeAfter Q 37 [mj_U, mj_U, mj_U, mj_U] [] (lf_hp s) cl rc rs) (fun q0b => Q (.inl (some (.int (lf_i q0b)))) (lf_hp s) cl) p) : ∀ (n : Nat) (v3 : Int32), f_Baskets_isAlikeAfter_2 b c1 c2 n v3 s = some p → lf_wp sc d j_Baskets_isAlikeAfter Q 2 [.ref b, .int c1, .int c2, .int v3] [] (lf_hp s) cl rc rs := by
  intro n
  induction n with
  | zero =>
    intro v3 h
    exact absurd h (fun z => by cases z)
  | succ n ih =>
    intro v3 h
    unfold f_Baskets_isAlikeAfter_2 at h
    refine lf_blk B_Baskets_isAlikeAfter_2 ?_
    refine lf_iload rfl ?_
    refine lf_aload rfl ?_
    refine lf_getr (ci := 0) (k := 6) (lf_Baskets_0 hb) rfl (by decide) rfl ?_
    refine lf_iload rfl ?_
    refine lf_iald h (lf_Baskets_6 hb) ?_
    intro k2 h
    refine lf_icmp_ge h (fun h => ?_) (fun h => ?_)
    · rw [← Option.some.inj h] at hk
      exact mj_w_weak (ls := [mj_U, mj_U, mj_U, mj_U]) (lf_rr (lf_ri (lf_ri (lf_ri (lf_r0))))) hk
    · refine lf_aload rfl ?_
      refine lf_iload rfl ?_
      refine lf_iload rfl ?_
      refine lf_callVRb (as := [.int c1, .int v3]) (rest := []) h rfl rfl (lf_Baskets_0 hb) rfl (Nat.le_trans (by decide) hd) rfl rfl (fun p3 h9 => s_Baskets_passesOver hb h9) ?_
      intro p3 h
      refine lf_aload rfl ?_
      refine lf_iload rfl ?_
      refine lf_iload rfl ?_
      refine lf_iload rfl ?_
      refine lf_iadd ?_
      refine lf_callVRb (as := [.int c1, .int (v3 + c2)]) (rest := [.int (lf_i p3)]) h rfl rfl (lf_Baskets_0 hb) rfl (Nat.le_trans (by decide) hd) rfl rfl (fun p4 h9 => s_Baskets_passesOver hb h9) ?_
      intro p4 h
      refine lf_icmpb_eq h (fun h => ?_) (fun h => ?_)
      · refine lf_blk B_Baskets_isAlikeAfter_31 ?_
        refine lf_iinc (L := fun y5 => [.ref b, .int c1, .int c2, .int y5]) h lf_c1 rfl rfl (fun _ => rfl) ?_
        intro y5 h
        refine lf_goto ?_
        exact mj_w_weak (ls := [.ref b, .int c1, .int c2, .int y5]) (lf_rl (lf_rl (lf_rl (lf_rl (lf_r0))))) (ih y5 h)
      · refine lf_iconst lf_c0 ?_
        rw [← Option.some.inj h] at hk
        exact lf_iret hk
theorem s_Baskets_isAlikeAfter {sc : Nat × (Nat → Int32)} {b : Nat} {x1 : Int32} {x2 : Int32} (hb : lf_Baskets b) {s : lf_S} {p : Bool} (h : f_Baskets_isAlikeAfter b x1 x2 s = some p) : lf_ok sc 2 j_Baskets_isAlikeAfter [.ref b, .int x1, .int x2] s (some (.int (lf_i p))) s := by
  refine lf_in (D := 1) (ls := [.ref b, .int x1, .int x2, mj_U]) rfl lf_zb rfl ?_
  intro d hd cl rc rs
  unfold f_Baskets_isAlikeAfter at h
  refine lf_blk B_Baskets_isAlikeAfter_0 ?_
  refine lf_iconst lf_c0 ?_
  refine lf_istore (L := fun y1 => [.ref b, .int x1, .int x2, .int y1]) h rfl rfl (fun _ => rfl) ?_
  intro y1 h
  refine lf_end ?_
  refine lf_loop h (fun p6 hp6 h => ?_)
  refine mj_w_weak (ls := [.ref b, .int x1, .int x2, .int y1]) (lf_rl (lf_rl (lf_rl (lf_rl (lf_r0))))) ?_
  refine s_Baskets_isAlikeAfter_2 hb (Nat.le_trans (by decide) hd) ?_ 5000 y1 hp6
  cases p6 with
  | inl q7 =>
    dsimp only [Sum.elim_inl, Sum.elim_inr] at h ⊢
    refine lf_blk B_Baskets_isAlikeAfter_37 ?_
    refine lf_iconst lf_c1 ?_
    cases h
    exact lf_iret ⟨rfl, rfl, rfl⟩
  | inr q8 =>
    dsimp only [Sum.elim_inl, Sum.elim_inr] at h ⊢
    cases h
    exact ⟨rfl, rfl, rfl⟩
theorem s_Baskets_againOf_9 {sc : Nat × (Nat → Int32)} {d : Nat} {Q : mj_Q} {cl : Bool} {rc rs : Nat} {b : Nat} {c1 : Int32} {c2 : Int32} {s : lf_S} {p : (Unit) ⊕ (Int32)} (hb : lf_Baskets b) (hd : 2 ≤ d) (hk : Sum.elim (fun q0a => lf_wp sc d j_Baskets_againOf Q 38 [mj_U, mj_U, .int c2, mj_U] [] (lf_hp s) cl rc rs) (fun q0b => Q (.inl (some (.int q0b))) (lf_hp s) cl) p) : ∀ (n : Nat) (v3 : Int32), f_Baskets_againOf_9 b c1 c2 n v3 s = some p → lf_wp sc d j_Baskets_againOf Q 9 [.ref b, .int c1, .int c2, .int v3] [] (lf_hp s) cl rc rs := by
  intro n
  induction n with
  | zero =>
    intro v3 h
    exact absurd h (fun z => by cases z)
  | succ n ih =>
    intro v3 h
    unfold f_Baskets_againOf_9 at h
    refine lf_blk B_Baskets_againOf_9 ?_
    refine lf_iload rfl ?_
    refine lf_iload rfl ?_
    refine lf_icmp_ge h (fun h => ?_) (fun h => ?_)
    · rw [← Option.some.inj h] at hk
      exact mj_w_weak (ls := [mj_U, mj_U, .int c2, mj_U]) (lf_rr (lf_ri (lf_rl (lf_ri (lf_r0))))) hk
    · refine lf_aload rfl ?_
      refine lf_iload rfl ?_
      refine lf_iload rfl ?_
      refine lf_aload rfl ?_
      refine lf_getr (ci := 0) (k := 1) (lf_Baskets_0 hb) rfl (by decide) rfl ?_
      refine lf_iload rfl ?_
      refine lf_iald h (lf_Baskets_1 hb) ?_
      intro k4 h
      refine lf_imul ?_
      refine lf_callVRb (as := [.int c1, .int (v3 * (s.1 (b + 1) k4))]) (rest := []) h rfl rfl (lf_Baskets_0 hb) rfl (Nat.le_trans (by decide) hd) rfl rfl (fun p5 h9 => s_Baskets_isAlikeAfter hb h9) ?_
      intro p5 h
      refine lf_ifb_eq h (fun h => ?_) (fun h => ?_)
      · refine lf_blk B_Baskets_againOf_32 ?_
        refine lf_iinc (L := fun y6 => [.ref b, .int c1, .int c2, .int y6]) h lf_c1 rfl rfl (fun _ => rfl) ?_
        intro y6 h
        refine lf_goto ?_
        exact mj_w_weak (ls := [.ref b, .int c1, .int c2, .int y6]) (lf_rl (lf_rl (lf_rl (lf_rl (lf_r0))))) (ih y6 h)
      · refine lf_iload rfl ?_
        rw [← Option.some.inj h] at hk
        exact lf_iret hk
theorem s_Baskets_againOf {sc : Nat × (Nat → Int32)} {b : Nat} {x1 : Int32} (hb : lf_Baskets b) {s : lf_S} {p : Int32} (h : f_Baskets_againOf b x1 s = some p) : lf_ok sc 3 j_Baskets_againOf [.ref b, .int x1] s (some (.int p)) s := by
  refine lf_in (D := 2) (ls := [.ref b, .int x1, mj_U, mj_U]) rfl (lf_zi (by decide +kernel)) rfl ?_
  intro d hd cl rc rs
  unfold f_Baskets_againOf at h
  refine lf_blk B_Baskets_againOf_0 ?_
  refine lf_aload rfl ?_
  refine lf_getr (ci := 0) (k := 6) (lf_Baskets_0 hb) rfl (by decide) rfl ?_
  refine lf_iload rfl ?_
  refine lf_iald h (lf_Baskets_6 hb) ?_
  intro k1 h
  refine lf_istore (L := fun y2 => [.ref b, .int x1, .int y2, mj_U]) h rfl rfl (fun _ => rfl) ?_
  intro y2 h
  refine lf_iconst lf_c1 ?_
  refine lf_istore (L := fun y3 => [.ref b, .int x1, .int y2, .int y3]) h rfl rfl (fun _ => rfl) ?_
  intro y3 h
  refine lf_end ?_
  refine lf_loop h (fun p7 hp7 h => ?_)
  refine mj_w_weak (ls := [.ref b, .int x1, .int y2, .int y3]) (lf_rl (lf_rl (lf_rl (lf_rl (lf_r0))))) ?_
  refine s_Baskets_againOf_9 hb (Nat.le_trans (by decide) hd) ?_ 5000 y3 hp7
  cases p7 with
  | inl q8 =>
    dsimp only [Sum.elim_inl, Sum.elim_inr] at h ⊢
    refine lf_blk B_Baskets_againOf_38 ?_
    refine lf_iload rfl ?_
    cases h
    exact lf_iret ⟨rfl, rfl, rfl⟩
  | inr q9 =>
    dsimp only [Sum.elim_inl, Sum.elim_inr] at h ⊢
    cases h
    exact ⟨rfl, rfl, rfl⟩
theorem s_Baskets_longestAlike_12 {sc : Nat × (Nat → Int32)} {d : Nat} {Q : mj_Q} {cl : Bool} {rc rs : Nat} {b : Nat} {c1 : Int32} {c2 : Int32} {c3 : Int32} {c4 : Int32} {s : lf_S} {p : Int32} (hb : lf_Baskets b) (hd : 1 ≤ d) (hk : lf_wp sc d j_Baskets_longestAlike Q 73 [mj_U, mj_U, mj_U, mj_U, mj_U, .int p, mj_U, mj_U, mj_U, mj_U] [] (lf_hp s) cl rc rs) : ∀ (n : Nat) (v5 : Int32) (v6 : Int32) (v7 : Int32) (v8 : Int32), f_Baskets_longestAlike_12 b c1 c2 c3 c4 n v5 v6 v7 v8 s = some p → lf_wp sc d j_Baskets_longestAlike Q 12 [.ref b, .int c1, .int c2, .int c3, .int c4, .int v5, .int v6, .int v7, .int v8, mj_U] [] (lf_hp s) cl rc rs := by
  intro n
  induction n with
  | zero =>
    intro v5 v6 v7 v8 h
    exact absurd h (fun z => by cases z)
  | succ n ih =>
    intro v5 v6 v7 v8 h
    unfold f_Baskets_longestAlike_12 at h
    refine lf_blk B_Baskets_longestAlike_12 ?_
    refine lf_iload rfl ?_
    refine lf_iload rfl ?_
    refine lf_icmp_ge h (fun h => ?_) (fun h => ?_)
    · rw [← Option.some.inj h] at hk
      exact mj_w_weak (ls := [mj_U, mj_U, mj_U, mj_U, mj_U, .int v5, mj_U, mj_U, mj_U, mj_U]) (lf_rr (lf_ri (lf_ri (lf_ri (lf_ri (lf_rl (lf_ri (lf_ri (lf_ri (lf_rl (lf_r0))))))))))) hk
    · refine lf_aload rfl ?_
      refine lf_iload rfl ?_
      refine lf_iload rfl ?_
      refine lf_iload rfl ?_
      refine lf_iload rfl ?_
      refine lf_imul ?_
      refine lf_iadd ?_
      refine lf_callVRb (as := [.int c1, .int (c2 + (v8 * c3))]) (rest := []) h rfl rfl (lf_Baskets_0 hb) rfl (Nat.le_trans (by decide) hd) rfl rfl (fun p5 h9 => s_Baskets_passesOver hb h9) ?_
      intro p5 h
      refine lf_istoreb (L := fun e6 => [.ref b, .int c1, .int c2, .int c3, .int c4, .int v5, .int v6, .int v7, .int v8, .int (lf_i e6)]) h rfl rfl (fun _ => rfl) ?_
      intro e6 h
      refine lf_iload rfl ?_
      refine lf_if_le h (fun h => ?_) (fun h => ?_)
      · refine lf_blk B_Baskets_longestAlike_51 ?_
        refine lf_iconst lf_c1 ?_
        refine lf_end ?_
        refine lf_blk B_Baskets_longestAlike_52 ?_
        refine lf_istore (L := fun y7 => [.ref b, .int c1, .int c2, .int c3, .int c4, .int v5, .int y7, .int v7, .int v8, .int (lf_i e6)]) h rfl rfl (fun _ => rfl) ?_
        intro y7 h
        refine lf_iload rfl ?_
        refine lf_iload rfl ?_
        refine lf_max rfl ?_
        refine lf_istore (L := fun y8 => [.ref b, .int c1, .int c2, .int c3, .int c4, .int y8, .int y7, .int v7, .int v8, .int (lf_i e6)]) h rfl rfl (fun _ => rfl) ?_
        intro y8 h
        refine lf_iload rfl ?_
        refine lf_istoreb (L := fun e9 => [.ref b, .int c1, .int c2, .int c3, .int c4, .int y8, .int y7, .int (lf_i e9), .int v8, .int (lf_i e6)]) h rfl rfl (fun _ => rfl) ?_
        intro e9 h
        refine lf_iinc (L := fun y10 => [.ref b, .int c1, .int c2, .int c3, .int c4, .int y8, .int y7, .int (lf_i e9), .int y10, .int (lf_i e6)]) h lf_c1 rfl rfl (fun _ => rfl) ?_
        intro y10 h
        refine lf_goto ?_
        exact mj_w_weak (ls := [.ref b, .int c1, .int c2, .int c3, .int c4, .int y8, .int y7, .int (lf_i e9), .int y10, mj_U]) (lf_rl (lf_rl (lf_rl (lf_rl (lf_rl (lf_rl (lf_rl (lf_rl (lf_rl (lf_ri (lf_r0))))))))))) (ih y8 y7 (lf_i e9) y10 h)
      · refine lf_iload rfl ?_
        refine lf_iload rfl ?_
        refine lf_icmp_ne h (fun h => ?_) (fun h => ?_)
        · refine lf_blk B_Baskets_longestAlike_51 ?_
          refine lf_iconst lf_c1 ?_
          refine lf_end ?_
          refine lf_blk B_Baskets_longestAlike_52 ?_
          refine lf_istore (L := fun y11 => [.ref b, .int c1, .int c2, .int c3, .int c4, .int v5, .int y11, .int v7, .int v8, .int (lf_i e6)]) h rfl rfl (fun _ => rfl) ?_
          intro y11 h
          refine lf_iload rfl ?_
          refine lf_iload rfl ?_
          refine lf_max rfl ?_
          refine lf_istore (L := fun y12 => [.ref b, .int c1, .int c2, .int c3, .int c4, .int y12, .int y11, .int v7, .int v8, .int (lf_i e6)]) h rfl rfl (fun _ => rfl) ?_
          intro y12 h
          refine lf_iload rfl ?_
          refine lf_istoreb (L := fun e13 => [.ref b, .int c1, .int c2, .int c3, .int c4, .int y12, .int y11, .int (lf_i e13), .int v8, .int (lf_i e6)]) h rfl rfl (fun _ => rfl) ?_
          intro e13 h
          refine lf_iinc (L := fun y14 => [.ref b, .int c1, .int c2, .int c3, .int c4, .int y12, .int y11, .int (lf_i e13), .int y14, .int (lf_i e6)]) h lf_c1 rfl rfl (fun _ => rfl) ?_
          intro y14 h
          refine lf_goto ?_
          exact mj_w_weak (ls := [.ref b, .int c1, .int c2, .int c3, .int c4, .int y12, .int y11, .int (lf_i e13), .int y14, mj_U]) (lf_rl (lf_rl (lf_rl (lf_rl (lf_rl (lf_rl (lf_rl (lf_rl (lf_rl (lf_ri (lf_r0))))))))))) (ih y12 y11 (lf_i e13) y14 h)
        · refine lf_iload rfl ?_
          refine lf_iconst lf_c1 ?_
          refine lf_iadd ?_
          refine lf_goto ?_
          refine lf_blk B_Baskets_longestAlike_52 ?_
          refine lf_istore (L := fun y15 => [.ref b, .int c1, .int c2, .int c3, .int c4, .int v5, .int y15, .int v7, .int v8, .int (lf_i e6)]) h rfl rfl (fun _ => rfl) ?_
          intro y15 h
          refine lf_iload rfl ?_
          refine lf_iload rfl ?_
          refine lf_max rfl ?_
          refine lf_istore (L := fun y16 => [.ref b, .int c1, .int c2, .int c3, .int c4, .int y16, .int y15, .int v7, .int v8, .int (lf_i e6)]) h rfl rfl (fun _ => rfl) ?_
          intro y16 h
          refine lf_iload rfl ?_
          refine lf_istoreb (L := fun e17 => [.ref b, .int c1, .int c2, .int c3, .int c4, .int y16, .int y15, .int (lf_i e17), .int v8, .int (lf_i e6)]) h rfl rfl (fun _ => rfl) ?_
          intro e17 h
          refine lf_iinc (L := fun y18 => [.ref b, .int c1, .int c2, .int c3, .int c4, .int y16, .int y15, .int (lf_i e17), .int y18, .int (lf_i e6)]) h lf_c1 rfl rfl (fun _ => rfl) ?_
          intro y18 h
          refine lf_goto ?_
          exact mj_w_weak (ls := [.ref b, .int c1, .int c2, .int c3, .int c4, .int y16, .int y15, .int (lf_i e17), .int y18, mj_U]) (lf_rl (lf_rl (lf_rl (lf_rl (lf_rl (lf_rl (lf_rl (lf_rl (lf_rl (lf_ri (lf_r0))))))))))) (ih y16 y15 (lf_i e17) y18 h)
theorem s_Baskets_longestAlike {sc : Nat × (Nat → Int32)} {b : Nat} {x1 : Int32} {x2 : Int32} {x3 : Int32} {x4 : Int32} (hb : lf_Baskets b) {s : lf_S} {p : Int32} (h : f_Baskets_longestAlike b x1 x2 x3 x4 s = some p) : lf_ok sc 2 j_Baskets_longestAlike [.ref b, .int x1, .int x2, .int x3, .int x4] s (some (.int p)) s := by
  refine lf_in (D := 1) (ls := [.ref b, .int x1, .int x2, .int x3, .int x4, mj_U, mj_U, mj_U, mj_U, mj_U]) rfl (lf_zi (by decide +kernel)) rfl ?_
  intro d hd cl rc rs
  unfold f_Baskets_longestAlike at h
  refine lf_blk B_Baskets_longestAlike_0 ?_
  refine lf_iconst lf_c0 ?_
  refine lf_istore (L := fun y1 => [.ref b, .int x1, .int x2, .int x3, .int x4, .int y1, mj_U, mj_U, mj_U, mj_U]) h rfl rfl (fun _ => rfl) ?_
  intro y1 h
  refine lf_iconst lf_c0 ?_
  refine lf_istore (L := fun y2 => [.ref b, .int x1, .int x2, .int x3, .int x4, .int y1, .int y2, mj_U, mj_U, mj_U]) h rfl rfl (fun _ => rfl) ?_
  intro y2 h
  refine lf_iconst lf_c0 ?_
  refine lf_istore (L := fun y3 => [.ref b, .int x1, .int x2, .int x3, .int x4, .int y1, .int y2, .int y3, mj_U, mj_U]) h rfl rfl (fun _ => rfl) ?_
  intro y3 h
  refine lf_iconst lf_c0 ?_
  refine lf_istore (L := fun y4 => [.ref b, .int x1, .int x2, .int x3, .int x4, .int y1, .int y2, .int y3, .int y4, mj_U]) h rfl rfl (fun _ => rfl) ?_
  intro y4 h
  refine lf_end ?_
  refine lf_loop h (fun p19 hp19 h => ?_)
  refine mj_w_weak (ls := [.ref b, .int x1, .int x2, .int x3, .int x4, .int y1, .int y2, .int y3, .int y4, mj_U]) (lf_rl (lf_rl (lf_rl (lf_rl (lf_rl (lf_rl (lf_rl (lf_rl (lf_rl (lf_rl (lf_r0))))))))))) ?_
  refine s_Baskets_longestAlike_12 hb (Nat.le_trans (by decide) hd) ?_ 5000 y1 y2 y3 y4 hp19
  refine lf_blk B_Baskets_longestAlike_73 ?_
  refine lf_iload rfl ?_
  cases h
  exact lf_iret ⟨rfl, rfl, rfl⟩
theorem s_Baskets_looseOf_5 {sc : Nat × (Nat → Int32)} {d : Nat} {Q : mj_Q} {cl : Bool} {rc rs : Nat} {b : Nat} {c1 : Int32} {c2 : Int32} {s : lf_S} {p : Int32} (hb : lf_Baskets b) (hd : 2 ≤ d) (hk : lf_wp sc d j_Baskets_looseOf Q 47 [mj_U, mj_U, mj_U, .int p, mj_U] [] (lf_hp s) cl rc rs) : ∀ (n : Nat) (v3 : Int32) (v4 : Int32), f_Baskets_looseOf_5 b c1 c2 n v3 v4 s = some p → lf_wp sc d j_Baskets_looseOf Q 5 [.ref b, .int c1, .int c2, .int v3, .int v4] [] (lf_hp s) cl rc rs := by
  intro n
  induction n with
  | zero =>
    intro v3 v4 h
    exact absurd h (fun z => by cases z)
  | succ n ih =>
    intro v3 v4 h
    unfold f_Baskets_looseOf_5 at h
    refine lf_blk B_Baskets_looseOf_5 ?_
    refine lf_iload rfl ?_
    refine lf_iload rfl ?_
    refine lf_icmp_ge h (fun h => ?_) (fun h => ?_)
    · rw [← Option.some.inj h] at hk
      exact mj_w_weak (ls := [mj_U, mj_U, mj_U, .int v3, mj_U]) (lf_rr (lf_ri (lf_ri (lf_rl (lf_ri (lf_r0)))))) hk
    · refine lf_aload rfl ?_
      refine lf_iload rfl ?_
      refine lf_iload rfl ?_
      refine lf_iload rfl ?_
      refine lf_aload rfl ?_
      refine lf_getr (ci := 0) (k := 2) (lf_Baskets_0 hb) rfl (by decide) rfl ?_
      refine lf_iload rfl ?_
      refine lf_iald h (lf_Baskets_2 hb) ?_
      intro k3 h
      refine lf_callVRi (as := [.int c1, .int v4, .int c2, .int (s.1 (b + 2) k3)]) (rest := []) h rfl rfl (lf_Baskets_0 hb) rfl (Nat.le_trans (by decide) hd) rfl rfl (fun p4 h9 => s_Baskets_longestAlike hb h9) ?_
      intro p4 h
      refine lf_aload rfl ?_
      refine lf_getr (ci := 0) (k := 2) (lf_Baskets_0 hb) rfl (by decide) rfl ?_
      refine lf_iload rfl ?_
      refine lf_iald h (lf_Baskets_2 hb) ?_
      intro k5 h
      refine lf_icmp_ne h (fun h => ?_) (fun h => ?_)
      · refine lf_blk B_Baskets_looseOf_41 ?_
        refine lf_iinc (L := fun y6 => [.ref b, .int c1, .int c2, .int v3, .int y6]) h lf_c1 rfl rfl (fun _ => rfl) ?_
        intro y6 h
        refine lf_goto ?_
        exact mj_w_weak (ls := [.ref b, .int c1, .int c2, .int v3, .int y6]) (lf_rl (lf_rl (lf_rl (lf_rl (lf_rl (lf_r0)))))) (ih v3 y6 h)
      · refine lf_iload rfl ?_
        refine lf_iconst lf_c1 ?_
        refine lf_iload rfl ?_
        refine lf_ishl ?_
        refine lf_ior ?_
        refine lf_istore (L := fun y7 => [.ref b, .int c1, .int c2, .int y7, .int v4]) h rfl rfl (fun _ => rfl) ?_
        intro y7 h
        refine lf_end ?_
        refine lf_blk B_Baskets_looseOf_41 ?_
        refine lf_iinc (L := fun y8 => [.ref b, .int c1, .int c2, .int y7, .int y8]) h lf_c1 rfl rfl (fun _ => rfl) ?_
        intro y8 h
        refine lf_goto ?_
        exact mj_w_weak (ls := [.ref b, .int c1, .int c2, .int y7, .int y8]) (lf_rl (lf_rl (lf_rl (lf_rl (lf_rl (lf_r0)))))) (ih y7 y8 h)
theorem s_Baskets_looseOf {sc : Nat × (Nat → Int32)} {b : Nat} {x1 : Int32} {x2 : Int32} (hb : lf_Baskets b) {s : lf_S} {p : Int32} (h : f_Baskets_looseOf b x1 x2 s = some p) : lf_ok sc 3 j_Baskets_looseOf [.ref b, .int x1, .int x2] s (some (.int p)) s := by
  refine lf_in (D := 2) (ls := [.ref b, .int x1, .int x2, mj_U, mj_U]) rfl (lf_zi (by decide +kernel)) rfl ?_
  intro d hd cl rc rs
  unfold f_Baskets_looseOf at h
  refine lf_blk B_Baskets_looseOf_0 ?_
  refine lf_iconst lf_c0 ?_
  refine lf_istore (L := fun y1 => [.ref b, .int x1, .int x2, .int y1, mj_U]) h rfl rfl (fun _ => rfl) ?_
  intro y1 h
  refine lf_iconst lf_c0 ?_
  refine lf_istore (L := fun y2 => [.ref b, .int x1, .int x2, .int y1, .int y2]) h rfl rfl (fun _ => rfl) ?_
  intro y2 h
  refine lf_end ?_
  refine lf_loop h (fun p9 hp9 h => ?_)
  refine mj_w_weak (ls := [.ref b, .int x1, .int x2, .int y1, .int y2]) (lf_rl (lf_rl (lf_rl (lf_rl (lf_rl (lf_r0)))))) ?_
  refine s_Baskets_looseOf_5 hb (Nat.le_trans (by decide) hd) ?_ 5000 y1 y2 hp9
  refine lf_blk B_Baskets_looseOf_47 ?_
  refine lf_iload rfl ?_
  cases h
  exact lf_iret ⟨rfl, rfl, rfl⟩
theorem s_Baskets_floatOf {sc : Nat × (Nat → Int32)} {b : Nat} {x1 : Int32} (hb : lf_Baskets b) {s : lf_S} {p : Int32} (h : f_Baskets_floatOf b x1 s = some p) : lf_ok sc 3 j_Baskets_floatOf [.ref b, .int x1] s (some (.int p)) s := by
  refine lf_in (D := 2) (ls := [.ref b, .int x1]) rfl (lf_zi (by decide +kernel)) rfl ?_
  intro d hd cl rc rs
  unfold f_Baskets_floatOf at h
  refine lf_blk B_Baskets_floatOf_0 ?_
  refine lf_aload rfl ?_
  refine lf_iload rfl ?_
  refine lf_iconst lf_c0 ?_
  refine lf_iconst lf_c1 ?_
  refine lf_aload rfl ?_
  refine lf_getr (ci := 0) (k := 1) (lf_Baskets_0 hb) rfl (by decide) rfl ?_
  refine lf_iload rfl ?_
  refine lf_iald h (lf_Baskets_1 hb) ?_
  intro k1 h
  refine lf_aload rfl ?_
  refine lf_getr (ci := 0) (k := 2) (lf_Baskets_0 hb) rfl (by decide) rfl ?_
  refine lf_iload rfl ?_
  refine lf_iald h (lf_Baskets_2 hb) ?_
  intro k2 h
  refine lf_imul ?_
  refine lf_callVRi (as := [.int x1, .int (0 : Int32), .int (1 : Int32), .int ((s.1 (b + 1) k1) * (s.1 (b + 2) k2))]) (rest := []) h rfl rfl (lf_Baskets_0 hb) rfl (Nat.le_trans (by decide) hd) rfl rfl (fun p3 h9 => s_Baskets_longestAlike hb h9) ?_
  intro p3 h
  cases h
  exact lf_iret ⟨rfl, rfl, rfl⟩
theorem s_Baskets_dropOf_4 {sc : Nat × (Nat → Int32)} {d : Nat} {Q : mj_Q} {cl : Bool} {rc rs : Nat} {b : Nat} {c1 : Int32} {s : lf_S} {p : Int32} (hb : lf_Baskets b) (hd : 2 ≤ d) (hk : lf_wp sc d j_Baskets_dropOf Q 43 [mj_U, mj_U, .int p, mj_U] [] (lf_hp s) cl rc rs) : ∀ (n : Nat) (v2 : Int32) (v3 : Int32), f_Baskets_dropOf_4 b c1 n v2 v3 s = some p → lf_wp sc d j_Baskets_dropOf Q 4 [.ref b, .int c1, .int v2, .int v3] [] (lf_hp s) cl rc rs := by
  intro n
  induction n with
  | zero =>
    intro v2 v3 h
    exact absurd h (fun z => by cases z)
  | succ n ih =>
    intro v2 v3 h
    unfold f_Baskets_dropOf_4 at h
    refine lf_blk B_Baskets_dropOf_4 ?_
    refine lf_iload rfl ?_
    refine lf_aload rfl ?_
    refine lf_getr (ci := 0) (k := 1) (lf_Baskets_0 hb) rfl (by decide) rfl ?_
    refine lf_iload rfl ?_
    refine lf_iald h (lf_Baskets_1 hb) ?_
    intro k3 h
    refine lf_icmp_ge h (fun h => ?_) (fun h => ?_)
    · rw [← Option.some.inj h] at hk
      exact mj_w_weak (ls := [mj_U, mj_U, .int v2, mj_U]) (lf_rr (lf_ri (lf_rl (lf_ri (lf_r0))))) hk
    · refine lf_iload rfl ?_
      refine lf_aload rfl ?_
      refine lf_iload rfl ?_
      refine lf_iload rfl ?_
      refine lf_aload rfl ?_
      refine lf_getr (ci := 0) (k := 1) (lf_Baskets_0 hb) rfl (by decide) rfl ?_
      refine lf_iload rfl ?_
      refine lf_iald h (lf_Baskets_1 hb) ?_
      intro k4 h
      refine lf_aload rfl ?_
      refine lf_getr (ci := 0) (k := 2) (lf_Baskets_0 hb) rfl (by decide) rfl ?_
      refine lf_iload rfl ?_
      refine lf_iald h (lf_Baskets_2 hb) ?_
      intro k5 h
      refine lf_callVRi (as := [.int c1, .int v3, .int (s.1 (b + 1) k4), .int (s.1 (b + 2) k5)]) (rest := [.int v2]) h rfl rfl (lf_Baskets_0 hb) rfl (Nat.le_trans (by decide) hd) rfl rfl (fun p6 h9 => s_Baskets_longestAlike hb h9) ?_
      intro p6 h
      refine lf_max rfl ?_
      refine lf_istore (L := fun y7 => [.ref b, .int c1, .int y7, .int v3]) h rfl rfl (fun _ => rfl) ?_
      intro y7 h
      refine lf_iinc (L := fun y8 => [.ref b, .int c1, .int y7, .int y8]) h lf_c1 rfl rfl (fun _ => rfl) ?_
      intro y8 h
      refine lf_goto ?_
      exact mj_w_weak (ls := [.ref b, .int c1, .int y7, .int y8]) (lf_rl (lf_rl (lf_rl (lf_rl (lf_r0))))) (ih y7 y8 h)
theorem s_Baskets_dropOf {sc : Nat × (Nat → Int32)} {b : Nat} {x1 : Int32} (hb : lf_Baskets b) {s : lf_S} {p : Int32} (h : f_Baskets_dropOf b x1 s = some p) : lf_ok sc 3 j_Baskets_dropOf [.ref b, .int x1] s (some (.int p)) s := by
  refine lf_in (D := 2) (ls := [.ref b, .int x1, mj_U, mj_U]) rfl (lf_zi (by decide +kernel)) rfl ?_
  intro d hd cl rc rs
  unfold f_Baskets_dropOf at h
  refine lf_blk B_Baskets_dropOf_0 ?_
  refine lf_iconst lf_c0 ?_
  refine lf_istore (L := fun y1 => [.ref b, .int x1, .int y1, mj_U]) h rfl rfl (fun _ => rfl) ?_
  intro y1 h
  refine lf_iconst lf_c0 ?_
  refine lf_istore (L := fun y2 => [.ref b, .int x1, .int y1, .int y2]) h rfl rfl (fun _ => rfl) ?_
  intro y2 h
  refine lf_end ?_
  refine lf_loop h (fun p9 hp9 h => ?_)
  refine mj_w_weak (ls := [.ref b, .int x1, .int y1, .int y2]) (lf_rl (lf_rl (lf_rl (lf_rl (lf_r0))))) ?_
  refine s_Baskets_dropOf_4 hb (Nat.le_trans (by decide) hd) ?_ 5000 y1 y2 hp9
  refine lf_blk B_Baskets_dropOf_43 ?_
  refine lf_iload rfl ?_
  cases h
  exact lf_iret ⟨rfl, rfl, rfl⟩
theorem s_Baskets_isBlind_2 {sc : Nat × (Nat → Int32)} {d : Nat} {Q : mj_Q} {cl : Bool} {rc rs : Nat} {b : Nat} {c1 : Int32} {c2 : Int32} {s : lf_S} {p : (Unit) ⊕ (Bool)} (hb : lf_Baskets b) (hd : 1 ≤ d) (hk : Sum.elim (fun q0a => lf_wp sc d j_Baskets_isBlind Q 56 [mj_U, mj_U, mj_U, mj_U, mj_U] [] (lf_hp s) cl rc rs) (fun q0b => Q (.inl (some (.int (lf_i q0b)))) (lf_hp s) cl) p) : ∀ (n : Nat) (v3 : Int32), f_Baskets_isBlind_2 b c1 c2 n v3 s = some p → lf_wp sc d j_Baskets_isBlind Q 2 [.ref b, .int c1, .int c2, .int v3, mj_U] [] (lf_hp s) cl rc rs := by
  intro n
  induction n with
  | zero =>
    intro v3 h
    exact absurd h (fun z => by cases z)
  | succ n ih =>
    intro v3 h
    unfold f_Baskets_isBlind_2 at h
    refine lf_blk B_Baskets_isBlind_2 ?_
    refine lf_iload rfl ?_
    refine lf_aload rfl ?_
    refine lf_getr (ci := 0) (k := 1) (lf_Baskets_0 hb) rfl (by decide) rfl ?_
    refine lf_iload rfl ?_
    refine lf_iald h (lf_Baskets_1 hb) ?_
    intro k2 h
    refine lf_icmp_ge h (fun h => ?_) (fun h => ?_)
    · rw [← Option.some.inj h] at hk
      exact mj_w_weak (ls := [mj_U, mj_U, mj_U, mj_U, mj_U]) (lf_rr (lf_ri (lf_ri (lf_ri (lf_rl (lf_r0)))))) hk
    · refine lf_iload rfl ?_
      refine lf_aload rfl ?_
      refine lf_getr (ci := 0) (k := 1) (lf_Baskets_0 hb) rfl (by decide) rfl ?_
      refine lf_iload rfl ?_
      refine lf_iald h (lf_Baskets_1 hb) ?_
      intro k3 h
      refine lf_imul ?_
      refine lf_iload rfl ?_
      refine lf_iadd ?_
      refine lf_istore (L := fun y4 => [.ref b, .int c1, .int c2, .int v3, .int y4]) h rfl rfl (fun _ => rfl) ?_
      intro y4 h
      refine lf_aload rfl ?_
      refine lf_iload rfl ?_
      refine lf_iload rfl ?_
      refine lf_callVRb (as := [.int c1, .int y4]) (rest := []) h rfl rfl (lf_Baskets_0 hb) rfl (Nat.le_trans (by decide) hd) rfl rfl (fun p5 h9 => s_Baskets_passesOver hb h9) ?_
      intro p5 h
      refine lf_aload rfl ?_
      refine lf_iload rfl ?_
      refine lf_iload rfl ?_
      refine lf_aload rfl ?_
      refine lf_getr (ci := 0) (k := 1) (lf_Baskets_0 hb) rfl (by decide) rfl ?_
      refine lf_iload rfl ?_
      refine lf_iald h (lf_Baskets_1 hb) ?_
      intro k6 h
      refine lf_isub ?_
      refine lf_callVRb (as := [.int c1, .int (y4 - (s.1 (b + 1) k6))]) (rest := [.int (lf_i p5)]) h rfl rfl (lf_Baskets_0 hb) rfl (Nat.le_trans (by decide) hd) rfl rfl (fun p7 h9 => s_Baskets_passesOver hb h9) ?_
      intro p7 h
      refine lf_icmpb_eq h (fun h => ?_) (fun h => ?_)
      · refine lf_blk B_Baskets_isBlind_50 ?_
        refine lf_iinc (L := fun y8 => [.ref b, .int c1, .int c2, .int y8, .int y4]) h lf_c1 rfl rfl (fun _ => rfl) ?_
        intro y8 h
        refine lf_goto ?_
        exact mj_w_weak (ls := [.ref b, .int c1, .int c2, .int y8, mj_U]) (lf_rl (lf_rl (lf_rl (lf_rl (lf_ri (lf_r0)))))) (ih y8 h)
      · refine lf_iconst lf_c0 ?_
        rw [← Option.some.inj h] at hk
        exact lf_iret hk
theorem s_Baskets_isBlind {sc : Nat × (Nat → Int32)} {b : Nat} {x1 : Int32} {x2 : Int32} (hb : lf_Baskets b) {s : lf_S} {p : Bool} (h : f_Baskets_isBlind b x1 x2 s = some p) : lf_ok sc 2 j_Baskets_isBlind [.ref b, .int x1, .int x2] s (some (.int (lf_i p))) s := by
  refine lf_in (D := 1) (ls := [.ref b, .int x1, .int x2, mj_U, mj_U]) rfl lf_zb rfl ?_
  intro d hd cl rc rs
  unfold f_Baskets_isBlind at h
  refine lf_blk B_Baskets_isBlind_0 ?_
  refine lf_iconst lf_c0 ?_
  refine lf_istore (L := fun y1 => [.ref b, .int x1, .int x2, .int y1, mj_U]) h rfl rfl (fun _ => rfl) ?_
  intro y1 h
  refine lf_end ?_
  refine lf_loop h (fun p9 hp9 h => ?_)
  refine mj_w_weak (ls := [.ref b, .int x1, .int x2, .int y1, mj_U]) (lf_rl (lf_rl (lf_rl (lf_rl (lf_rl (lf_r0)))))) ?_
  refine s_Baskets_isBlind_2 hb (Nat.le_trans (by decide) hd) ?_ 5000 y1 hp9
  cases p9 with
  | inl q10 =>
    dsimp only [Sum.elim_inl, Sum.elim_inr] at h ⊢
    refine lf_blk B_Baskets_isBlind_56 ?_
    refine lf_iconst lf_c1 ?_
    cases h
    exact lf_iret ⟨rfl, rfl, rfl⟩
  | inr q11 =>
    dsimp only [Sum.elim_inl, Sum.elim_inr] at h ⊢
    cases h
    exact ⟨rfl, rfl, rfl⟩
theorem s_Baskets_blindOf_4 {sc : Nat × (Nat → Int32)} {d : Nat} {Q : mj_Q} {cl : Bool} {rc rs : Nat} {b : Nat} {c1 : Int32} {s : lf_S} {p : Int32} (hb : lf_Baskets b) (hd : 2 ≤ d) (hk : lf_wp sc d j_Baskets_blindOf Q 32 [mj_U, mj_U, .int p, mj_U] [] (lf_hp s) cl rc rs) : ∀ (n : Nat) (v2 : Int32) (v3 : Int32), f_Baskets_blindOf_4 b c1 n v2 v3 s = some p → lf_wp sc d j_Baskets_blindOf Q 4 [.ref b, .int c1, .int v2, .int v3] [] (lf_hp s) cl rc rs := by
  intro n
  induction n with
  | zero =>
    intro v2 v3 h
    exact absurd h (fun z => by cases z)
  | succ n ih =>
    intro v2 v3 h
    unfold f_Baskets_blindOf_4 at h
    refine lf_blk B_Baskets_blindOf_4 ?_
    refine lf_iload rfl ?_
    refine lf_aload rfl ?_
    refine lf_getr (ci := 0) (k := 2) (lf_Baskets_0 hb) rfl (by decide) rfl ?_
    refine lf_iload rfl ?_
    refine lf_iald h (lf_Baskets_2 hb) ?_
    intro k3 h
    refine lf_icmp_ge h (fun h => ?_) (fun h => ?_)
    · rw [← Option.some.inj h] at hk
      exact mj_w_weak (ls := [mj_U, mj_U, .int v2, mj_U]) (lf_rr (lf_ri (lf_rl (lf_ri (lf_r0))))) hk
    · refine lf_aload rfl ?_
      refine lf_iload rfl ?_
      refine lf_iload rfl ?_
      refine lf_callVRb (as := [.int c1, .int v3]) (rest := []) h rfl rfl (lf_Baskets_0 hb) rfl (Nat.le_trans (by decide) hd) rfl rfl (fun p4 h9 => s_Baskets_isBlind hb h9) ?_
      intro p4 h
      refine lf_ifb_eq h (fun h => ?_) (fun h => ?_)
      · refine lf_blk B_Baskets_blindOf_26 ?_
        refine lf_iinc (L := fun y5 => [.ref b, .int c1, .int v2, .int y5]) h lf_c1 rfl rfl (fun _ => rfl) ?_
        intro y5 h
        refine lf_goto ?_
        exact mj_w_weak (ls := [.ref b, .int c1, .int v2, .int y5]) (lf_rl (lf_rl (lf_rl (lf_rl (lf_r0))))) (ih v2 y5 h)
      · refine lf_iinc (L := fun y6 => [.ref b, .int c1, .int y6, .int v3]) h lf_c1 rfl rfl (fun _ => rfl) ?_
        intro y6 h
        refine lf_end ?_
        refine lf_blk B_Baskets_blindOf_26 ?_
        refine lf_iinc (L := fun y7 => [.ref b, .int c1, .int y6, .int y7]) h lf_c1 rfl rfl (fun _ => rfl) ?_
        intro y7 h
        refine lf_goto ?_
        exact mj_w_weak (ls := [.ref b, .int c1, .int y6, .int y7]) (lf_rl (lf_rl (lf_rl (lf_rl (lf_r0))))) (ih y6 y7 h)
theorem s_Baskets_blindOf {sc : Nat × (Nat → Int32)} {b : Nat} {x1 : Int32} (hb : lf_Baskets b) {s : lf_S} {p : Int32} (h : f_Baskets_blindOf b x1 s = some p) : lf_ok sc 3 j_Baskets_blindOf [.ref b, .int x1] s (some (.int p)) s := by
  refine lf_in (D := 2) (ls := [.ref b, .int x1, mj_U, mj_U]) rfl (lf_zi (by decide +kernel)) rfl ?_
  intro d hd cl rc rs
  unfold f_Baskets_blindOf at h
  refine lf_blk B_Baskets_blindOf_0 ?_
  refine lf_iconst lf_c0 ?_
  refine lf_istore (L := fun y1 => [.ref b, .int x1, .int y1, mj_U]) h rfl rfl (fun _ => rfl) ?_
  intro y1 h
  refine lf_iconst lf_c1 ?_
  refine lf_istore (L := fun y2 => [.ref b, .int x1, .int y1, .int y2]) h rfl rfl (fun _ => rfl) ?_
  intro y2 h
  refine lf_end ?_
  refine lf_loop h (fun p8 hp8 h => ?_)
  refine mj_w_weak (ls := [.ref b, .int x1, .int y1, .int y2]) (lf_rl (lf_rl (lf_rl (lf_rl (lf_r0))))) ?_
  refine s_Baskets_blindOf_4 hb (Nat.le_trans (by decide) hd) ?_ 5000 y1 y2 hp8
  refine lf_blk B_Baskets_blindOf_32 ?_
  refine lf_iload rfl ?_
  cases h
  exact lf_iret ⟨rfl, rfl, rfl⟩
theorem s_Baskets_fitOf_2 {sc : Nat × (Nat → Int32)} {d : Nat} {Q : mj_Q} {cl : Bool} {rc rs : Nat} {b : Nat} {c1 : Int32} {s : lf_S} {p : (Unit) ⊕ (Int32)} (hb : lf_Baskets b) (hd : 3 ≤ d) (hk : Sum.elim (fun q0a => lf_wp sc d j_Baskets_fitOf Q 25 [mj_U, mj_U, mj_U] [] (lf_hp s) cl rc rs) (fun q0b => Q (.inl (some (.int q0b))) (lf_hp s) cl) p) : ∀ (n : Nat) (v2 : Int32), f_Baskets_fitOf_2 b c1 n v2 s = some p → lf_wp sc d j_Baskets_fitOf Q 2 [.ref b, .int c1, .int v2] [] (lf_hp s) cl rc rs := by
  intro n
  induction n with
  | zero =>
    intro v2 h
    exact absurd h (fun z => by cases z)
  | succ n ih =>
    intro v2 h
    unfold f_Baskets_fitOf_2 at h
    refine lf_blk B_Baskets_fitOf_2 ?_
    refine lf_iload rfl ?_
    refine lf_iconst lf_c24 ?_
    refine lf_icmp_gt h (fun h => ?_) (fun h => ?_)
    · rw [← Option.some.inj h] at hk
      exact mj_w_weak (ls := [mj_U, mj_U, mj_U]) (lf_rr (lf_ri (lf_ri (lf_r0)))) hk
    · refine lf_aload rfl ?_
      refine lf_iload rfl ?_
      refine lf_iload rfl ?_
      refine lf_callVRi (as := [.int c1, .int v2]) (rest := []) h rfl rfl (lf_Baskets_0 hb) rfl (Nat.le_trans (by decide) hd) rfl rfl (fun p2 h9 => s_Baskets_looseOf hb h9) ?_
      intro p2 h
      refine lf_if_ne h (fun h => ?_) (fun h => ?_)
      · refine lf_blk B_Baskets_fitOf_19 ?_
        refine lf_iinc (L := fun y3 => [.ref b, .int c1, .int y3]) h lf_c1 rfl rfl (fun _ => rfl) ?_
        intro y3 h
        refine lf_goto ?_
        exact mj_w_weak (ls := [.ref b, .int c1, .int y3]) (lf_rl (lf_rl (lf_rl (lf_r0)))) (ih y3 h)
      · refine lf_iload rfl ?_
        rw [← Option.some.inj h] at hk
        exact lf_iret hk
theorem s_Baskets_fitOf {sc : Nat × (Nat → Int32)} {b : Nat} {x1 : Int32} (hb : lf_Baskets b) {s : lf_S} {p : Int32} (h : f_Baskets_fitOf b x1 s = some p) : lf_ok sc 4 j_Baskets_fitOf [.ref b, .int x1] s (some (.int p)) s := by
  refine lf_in (D := 3) (ls := [.ref b, .int x1, mj_U]) rfl (lf_zi (by decide +kernel)) rfl ?_
  intro d hd cl rc rs
  unfold f_Baskets_fitOf at h
  refine lf_blk B_Baskets_fitOf_0 ?_
  refine lf_iconst lf_c3 ?_
  refine lf_istore (L := fun y1 => [.ref b, .int x1, .int y1]) h rfl rfl (fun _ => rfl) ?_
  intro y1 h
  refine lf_end ?_
  refine lf_loop h (fun p4 hp4 h => ?_)
  refine mj_w_weak (ls := [.ref b, .int x1, .int y1]) (lf_rl (lf_rl (lf_rl (lf_r0)))) ?_
  refine s_Baskets_fitOf_2 hb (Nat.le_trans (by decide) hd) ?_ 5000 y1 hp4
  cases p4 with
  | inl q5 =>
    dsimp only [Sum.elim_inl, Sum.elim_inr] at h ⊢
    refine lf_blk B_Baskets_fitOf_25 ?_
    refine lf_iconst lf_cm1 ?_
    cases h
    exact lf_iret ⟨rfl, rfl, rfl⟩
  | inr q6 =>
    dsimp only [Sum.elim_inl, Sum.elim_inr] at h ⊢
    cases h
    exact ⟨rfl, rfl, rfl⟩
theorem s_Baskets_runOf {sc : Nat × (Nat → Int32)} {b : Nat} {x1 : Int32} {x2 : Int32} (hb : lf_Baskets b) {s : lf_S} {p : Int32} (h : f_Baskets_runOf b x1 x2 s = some p) : lf_ok sc 1 j_Baskets_runOf [.ref b, .int x1, .int x2] s (some (.int p)) s := by
  refine lf_in (D := 0) (ls := [.ref b, .int x1, .int x2]) rfl (lf_zi (by decide +kernel)) rfl ?_
  intro d hd cl rc rs
  unfold f_Baskets_runOf at h
  refine lf_blk B_Baskets_runOf_0 ?_
  refine lf_aload rfl ?_
  refine lf_getr (ci := 0) (k := 7) (lf_Baskets_0 hb) rfl (by decide) rfl ?_
  refine lf_iload rfl ?_
  refine lf_iconst lf_c6 ?_
  refine lf_imul ?_
  refine lf_iload rfl ?_
  refine lf_iadd ?_
  refine lf_iald h (lf_Baskets_7 hb) ?_
  intro k1 h
  cases h
  exact lf_iret ⟨rfl, rfl, rfl⟩
theorem s_Orders_isOpen {sc : Nat × (Nat → Int32)} {b : Nat} {x1 : Int32} (hb : lf_Orders b) {s : lf_S} {p : Bool} (h : f_Orders_isOpen b x1 s = some p) : lf_ok sc 1 j_Orders_isOpen [.ref b, .int x1] s (some (.int (lf_i p))) s := by
  refine lf_in (D := 0) (ls := [.ref b, .int x1]) rfl lf_zb rfl ?_
  intro d hd cl rc rs
  unfold f_Orders_isOpen at h
  refine lf_blk B_Orders_isOpen_0 ?_
  refine lf_aload rfl ?_
  refine lf_getf (ci := 6) (k := 1) (lf_Orders_0 hb) rfl (by decide) rfl ?_
  refine lf_iload rfl ?_
  refine lf_ishr ?_
  refine lf_iconst lf_c1 ?_
  refine lf_iand ?_
  refine lf_iconst lf_c1 ?_
  refine lf_icmp_ne h (fun h => ?_) (fun h => ?_)
  · refine lf_blk B_Orders_isOpen_16 ?_
    refine lf_iconst lf_c0 ?_
    refine lf_end ?_
    refine lf_blk B_Orders_isOpen_17 ?_
    cases h
    exact lf_iret ⟨rfl, rfl, rfl⟩
  · refine lf_iconst lf_c1 ?_
    refine lf_goto ?_
    refine lf_blk B_Orders_isOpen_17 ?_
    cases h
    exact lf_iret ⟨rfl, rfl, rfl⟩
theorem s_Beds_grow_2 {sc : Nat × (Nat → Int32)} {d : Nat} {Q : mj_Q} {cl : Bool} {rc rs : Nat} {b : Nat} {c1 : Int32} {p : lf_S} (hb : lf_Beds b) (hd : 0 ≤ d) (hk : lf_wp sc d j_Beds_grow Q 78 [mj_U, mj_U, mj_U] [] (lf_hp p) cl rc rs) : ∀ (n : Nat) (v2 : Int32) (s : lf_S), f_Beds_grow_2 b c1 n v2 s = some p → lf_wp sc d j_Beds_grow Q 2 [.ref b, .int c1, .int v2] [] (lf_hp s) cl rc rs := by
  intro n
  induction n with
  | zero =>
    intro v2 s h
    exact absurd h (fun z => by cases z)
  | succ n ih =>
    intro v2 s h
    unfold f_Beds_grow_2 at h
    refine lf_blk B_Beds_grow_2 ?_
    refine lf_iload rfl ?_
    refine lf_aload rfl ?_
    refine lf_getf (ci := 1) (k := 0) (lf_Beds_0 hb) rfl (by decide) rfl ?_
    refine lf_icmp_ge h (fun h => ?_) (fun h => ?_)
    · rw [← Option.some.inj h] at hk
      exact mj_w_weak (ls := [mj_U, mj_U, mj_U]) (lf_rr (lf_ri (lf_ri (lf_r0)))) hk
    · refine lf_iload rfl ?_
      refine lf_if_eq h (fun h => ?_) (fun h => ?_)
      · refine lf_blk B_Beds_grow_24 ?_
        refine lf_aload rfl ?_
        refine lf_getr (ci := 1) (k := 2) (lf_Beds_0 hb) rfl (by decide) rfl ?_
        refine lf_iload rfl ?_
        refine lf_aload rfl ?_
        refine lf_getr (ci := 1) (k := 2) (lf_Beds_0 hb) rfl (by decide) rfl ?_
        refine lf_iload rfl ?_
        refine lf_iald h (lf_Beds_2 hb) ?_
        intro k2 h
        refine lf_iconst lf_c1 ?_
        refine lf_iadd ?_
        refine lf_iconst lf_c9 ?_
        refine lf_min rfl ?_
        refine lf_iast h (lf_Beds_2 hb) ?_
        intro s4 h
        refine lf_end ?_
        refine lf_blk B_Beds_grow_43 ?_
        refine lf_aload rfl ?_
        refine lf_getr (ci := 1) (k := 2) (lf_Beds_0 hb) rfl (by decide) rfl ?_
        refine lf_iload rfl ?_
        refine lf_iald h (lf_Beds_2 hb) ?_
        intro k5 h
        refine lf_iconst lf_c9 ?_
        refine lf_icmp_ne h (fun h => ?_) (fun h => ?_)
        · refine lf_blk B_Beds_grow_72 ?_
          refine lf_iinc (L := fun y6 => [.ref b, .int c1, .int y6]) h lf_c1 rfl rfl (fun _ => rfl) ?_
          intro y6 h
          refine lf_goto ?_
          exact mj_w_weak (ls := [.ref b, .int c1, .int y6]) (lf_rl (lf_rl (lf_rl (lf_r0)))) (ih y6 s4 h)
        · refine lf_aload rfl ?_
          refine lf_getr (ci := 1) (k := 3) (lf_Beds_0 hb) rfl (by decide) rfl ?_
          refine lf_iload rfl ?_
          refine lf_aload rfl ?_
          refine lf_getr (ci := 1) (k := 3) (lf_Beds_0 hb) rfl (by decide) rfl ?_
          refine lf_iload rfl ?_
          refine lf_iald h (lf_Beds_3 hb) ?_
          intro k7 h
          refine lf_iconst lf_c1 ?_
          refine lf_isub ?_
          refine lf_iconst lf_c1 ?_
          refine lf_max rfl ?_
          refine lf_iast h (lf_Beds_3 hb) ?_
          intro s9 h
          refine lf_end ?_
          refine lf_blk B_Beds_grow_72 ?_
          refine lf_iinc (L := fun y10 => [.ref b, .int c1, .int y10]) h lf_c1 rfl rfl (fun _ => rfl) ?_
          intro y10 h
          refine lf_goto ?_
          exact mj_w_weak (ls := [.ref b, .int c1, .int y10]) (lf_rl (lf_rl (lf_rl (lf_r0)))) (ih y10 s9 h)
      · refine lf_aload rfl ?_
        refine lf_getr (ci := 1) (k := 4) (lf_Beds_0 hb) rfl (by decide) rfl ?_
        refine lf_iload rfl ?_
        refine lf_iald h (lf_Beds_4 hb) ?_
        intro k11 h
        refine lf_iconst lf_c5 ?_
        refine lf_icmp_ge h (fun h => ?_) (fun h => ?_)
        · refine lf_blk B_Beds_grow_43 ?_
          refine lf_aload rfl ?_
          refine lf_getr (ci := 1) (k := 2) (lf_Beds_0 hb) rfl (by decide) rfl ?_
          refine lf_iload rfl ?_
          refine lf_iald h (lf_Beds_2 hb) ?_
          intro k12 h
          refine lf_iconst lf_c9 ?_
          refine lf_icmp_ne h (fun h => ?_) (fun h => ?_)
          · refine lf_blk B_Beds_grow_72 ?_
            refine lf_iinc (L := fun y13 => [.ref b, .int c1, .int y13]) h lf_c1 rfl rfl (fun _ => rfl) ?_
            intro y13 h
            refine lf_goto ?_
            exact mj_w_weak (ls := [.ref b, .int c1, .int y13]) (lf_rl (lf_rl (lf_rl (lf_r0)))) (ih y13 s h)
          · refine lf_aload rfl ?_
            refine lf_getr (ci := 1) (k := 3) (lf_Beds_0 hb) rfl (by decide) rfl ?_
            refine lf_iload rfl ?_
            refine lf_aload rfl ?_
            refine lf_getr (ci := 1) (k := 3) (lf_Beds_0 hb) rfl (by decide) rfl ?_
            refine lf_iload rfl ?_
            refine lf_iald h (lf_Beds_3 hb) ?_
            intro k14 h
            refine lf_iconst lf_c1 ?_
            refine lf_isub ?_
            refine lf_iconst lf_c1 ?_
            refine lf_max rfl ?_
            refine lf_iast h (lf_Beds_3 hb) ?_
            intro s16 h
            refine lf_end ?_
            refine lf_blk B_Beds_grow_72 ?_
            refine lf_iinc (L := fun y17 => [.ref b, .int c1, .int y17]) h lf_c1 rfl rfl (fun _ => rfl) ?_
            intro y17 h
            refine lf_goto ?_
            exact mj_w_weak (ls := [.ref b, .int c1, .int y17]) (lf_rl (lf_rl (lf_rl (lf_r0)))) (ih y17 s16 h)
        · refine lf_end ?_
          refine lf_blk B_Beds_grow_24 ?_
          refine lf_aload rfl ?_
          refine lf_getr (ci := 1) (k := 2) (lf_Beds_0 hb) rfl (by decide) rfl ?_
          refine lf_iload rfl ?_
          refine lf_aload rfl ?_
          refine lf_getr (ci := 1) (k := 2) (lf_Beds_0 hb) rfl (by decide) rfl ?_
          refine lf_iload rfl ?_
          refine lf_iald h (lf_Beds_2 hb) ?_
          intro k18 h
          refine lf_iconst lf_c1 ?_
          refine lf_iadd ?_
          refine lf_iconst lf_c9 ?_
          refine lf_min rfl ?_
          refine lf_iast h (lf_Beds_2 hb) ?_
          intro s20 h
          refine lf_end ?_
          refine lf_blk B_Beds_grow_43 ?_
          refine lf_aload rfl ?_
          refine lf_getr (ci := 1) (k := 2) (lf_Beds_0 hb) rfl (by decide) rfl ?_
          refine lf_iload rfl ?_
          refine lf_iald h (lf_Beds_2 hb) ?_
          intro k21 h
          refine lf_iconst lf_c9 ?_
          refine lf_icmp_ne h (fun h => ?_) (fun h => ?_)
          · refine lf_blk B_Beds_grow_72 ?_
            refine lf_iinc (L := fun y22 => [.ref b, .int c1, .int y22]) h lf_c1 rfl rfl (fun _ => rfl) ?_
            intro y22 h
            refine lf_goto ?_
            exact mj_w_weak (ls := [.ref b, .int c1, .int y22]) (lf_rl (lf_rl (lf_rl (lf_r0)))) (ih y22 s20 h)
          · refine lf_aload rfl ?_
            refine lf_getr (ci := 1) (k := 3) (lf_Beds_0 hb) rfl (by decide) rfl ?_
            refine lf_iload rfl ?_
            refine lf_aload rfl ?_
            refine lf_getr (ci := 1) (k := 3) (lf_Beds_0 hb) rfl (by decide) rfl ?_
            refine lf_iload rfl ?_
            refine lf_iald h (lf_Beds_3 hb) ?_
            intro k23 h
            refine lf_iconst lf_c1 ?_
            refine lf_isub ?_
            refine lf_iconst lf_c1 ?_
            refine lf_max rfl ?_
            refine lf_iast h (lf_Beds_3 hb) ?_
            intro s25 h
            refine lf_end ?_
            refine lf_blk B_Beds_grow_72 ?_
            refine lf_iinc (L := fun y26 => [.ref b, .int c1, .int y26]) h lf_c1 rfl rfl (fun _ => rfl) ?_
            intro y26 h
            refine lf_goto ?_
            exact mj_w_weak (ls := [.ref b, .int c1, .int y26]) (lf_rl (lf_rl (lf_rl (lf_r0)))) (ih y26 s25 h)
theorem s_Beds_grow {sc : Nat × (Nat → Int32)} {b : Nat} {x1 : Int32} (hb : lf_Beds b) {s : lf_S} {p : (lf_S)} (h : f_Beds_grow b x1 s = some p) : lf_ok sc 1 j_Beds_grow [.ref b, .int x1] s (none) p := by
  refine lf_in (D := 0) (ls := [.ref b, .int x1, mj_U]) rfl (lf_zi (by decide +kernel)) rfl ?_
  intro d hd cl rc rs
  unfold f_Beds_grow at h
  refine lf_blk B_Beds_grow_0 ?_
  refine lf_iconst lf_c0 ?_
  refine lf_istore (L := fun y1 => [.ref b, .int x1, .int y1]) h rfl rfl (fun _ => rfl) ?_
  intro y1 h
  refine lf_end ?_
  refine lf_loop h (fun p27 hp27 h => ?_)
  refine mj_w_weak (ls := [.ref b, .int x1, .int y1]) (lf_rl (lf_rl (lf_rl (lf_r0)))) ?_
  refine s_Beds_grow_2 hb (Nat.le_trans (by decide) hd) ?_ 5000 y1 s hp27
  refine lf_blk B_Beds_grow_78 ?_
  cases h
  exact lf_ret ⟨rfl, rfl, rfl⟩
theorem s_Orders_shut {sc : Nat × (Nat → Int32)} {b : Nat} {x1 : Int32} (hb : lf_Orders b) {s : lf_S} {p : (lf_S)} (h : f_Orders_shut b x1 s = some p) : lf_ok sc 1 j_Orders_shut [.ref b, .int x1] s (none) p := by
  refine lf_in (D := 0) (ls := [.ref b, .int x1]) rfl (lf_zi (by decide +kernel)) rfl ?_
  intro d hd cl rc rs
  unfold f_Orders_shut at h
  refine lf_blk B_Orders_shut_0 ?_
  refine lf_aload rfl ?_
  refine lf_dupr ?_
  refine lf_getf (ci := 6) (k := 1) (lf_Orders_0 hb) rfl (by decide) rfl ?_
  refine lf_iconst lf_c1 ?_
  refine lf_iload rfl ?_
  refine lf_ishl ?_
  refine lf_iconst lf_cm1 ?_
  refine lf_ixor ?_
  refine lf_iand ?_
  refine lf_putf (ci := 6) (k := 1) h (lf_Orders_0 hb) rfl (by decide) rfl rfl rfl ?_
  intro s1 h
  cases h
  exact lf_ret ⟨rfl, rfl, rfl⟩
theorem s_Log_add {sc : Nat × (Nat → Int32)} {b : Nat} {x1 : Int32} {x2 : Int32} {x3 : Int32} {x4 : Int32} (hb : lf_Log b) {s : lf_S} {p : (lf_S)} (h : f_Log_add b x1 x2 x3 x4 s = some p) : lf_ok sc 1 j_Log_add [.ref b, .int x1, .int x2, .int x3, .int x4] s (none) p := by
  refine lf_in (D := 0) (ls := [.ref b, .int x1, .int x2, .int x3, .int x4, mj_U]) rfl (lf_zi (by decide +kernel)) rfl ?_
  intro d hd cl rc rs
  unfold f_Log_add at h
  refine lf_blk B_Log_add_0 ?_
  refine lf_aload rfl ?_
  refine lf_getf (ci := 5) (k := 0) (lf_Log_0 hb) rfl (by decide) rfl ?_
  refine lf_iconst lf_c60 ?_
  refine lf_icmp_ne h (fun h => ?_) (fun h => ?_)
  · refine lf_blk B_Log_add_35 ?_
    refine lf_aload rfl ?_
    refine lf_getf (ci := 5) (k := 0) (lf_Log_0 hb) rfl (by decide) rfl ?_
    refine lf_iconst lf_c4 ?_
    refine lf_imul ?_
    refine lf_istore (L := fun y1 => [.ref b, .int x1, .int x2, .int x3, .int x4, .int y1]) h rfl rfl (fun _ => rfl) ?_
    intro y1 h
    refine lf_aload rfl ?_
    refine lf_getr (ci := 5) (k := 1) (lf_Log_0 hb) rfl (by decide) rfl ?_
    refine lf_iload rfl ?_
    refine lf_iload rfl ?_
    refine lf_iast h (lf_Log_1 hb) ?_
    intro s3 h
    refine lf_aload rfl ?_
    refine lf_getr (ci := 5) (k := 1) (lf_Log_0 hb) rfl (by decide) rfl ?_
    refine lf_iload rfl ?_
    refine lf_iconst lf_c1 ?_
    refine lf_iadd ?_
    refine lf_iload rfl ?_
    refine lf_iast h (lf_Log_1 hb) ?_
    intro s5 h
    refine lf_aload rfl ?_
    refine lf_getr (ci := 5) (k := 1) (lf_Log_0 hb) rfl (by decide) rfl ?_
    refine lf_iload rfl ?_
    refine lf_iconst lf_c2 ?_
    refine lf_iadd ?_
    refine lf_iload rfl ?_
    refine lf_iast h (lf_Log_1 hb) ?_
    intro s7 h
    refine lf_aload rfl ?_
    refine lf_getr (ci := 5) (k := 1) (lf_Log_0 hb) rfl (by decide) rfl ?_
    refine lf_iload rfl ?_
    refine lf_iconst lf_c3 ?_
    refine lf_iadd ?_
    refine lf_iload rfl ?_
    refine lf_iast h (lf_Log_1 hb) ?_
    intro s9 h
    refine lf_aload rfl ?_
    refine lf_dupr ?_
    refine lf_getf (ci := 5) (k := 0) (lf_Log_0 hb) rfl (by decide) rfl ?_
    refine lf_iconst lf_c1 ?_
    refine lf_iadd ?_
    refine lf_putf (ci := 5) (k := 0) h (lf_Log_0 hb) rfl (by decide) rfl rfl rfl ?_
    intro s10 h
    cases h
    exact lf_ret ⟨rfl, rfl, rfl⟩
  · refine lf_aload rfl ?_
    refine lf_getr (ci := 5) (k := 1) (lf_Log_0 hb) rfl (by decide) rfl ?_
    refine lf_iconst lf_c4 ?_
    refine lf_aload rfl ?_
    refine lf_getr (ci := 5) (k := 1) (lf_Log_0 hb) rfl (by decide) rfl ?_
    refine lf_iconst lf_c0 ?_
    refine lf_iconst lf_c236 ?_
    refine lf_copy h (lf_Log_1 hb) (lf_Log_1 hb) rfl ?_
    intro s11 h
    refine lf_aload rfl ?_
    refine lf_dupr ?_
    refine lf_getf (ci := 5) (k := 0) (lf_Log_0 hb) rfl (by decide) rfl ?_
    refine lf_iconst lf_c1 ?_
    refine lf_isub ?_
    refine lf_putf (ci := 5) (k := 0) h (lf_Log_0 hb) rfl (by decide) rfl rfl rfl ?_
    intro s15 h
    refine lf_end ?_
    refine lf_blk B_Log_add_35 ?_
    refine lf_aload rfl ?_
    refine lf_getf (ci := 5) (k := 0) (lf_Log_0 hb) rfl (by decide) rfl ?_
    refine lf_iconst lf_c4 ?_
    refine lf_imul ?_
    refine lf_istore (L := fun y16 => [.ref b, .int x1, .int x2, .int x3, .int x4, .int y16]) h rfl rfl (fun _ => rfl) ?_
    intro y16 h
    refine lf_aload rfl ?_
    refine lf_getr (ci := 5) (k := 1) (lf_Log_0 hb) rfl (by decide) rfl ?_
    refine lf_iload rfl ?_
    refine lf_iload rfl ?_
    refine lf_iast h (lf_Log_1 hb) ?_
    intro s18 h
    refine lf_aload rfl ?_
    refine lf_getr (ci := 5) (k := 1) (lf_Log_0 hb) rfl (by decide) rfl ?_
    refine lf_iload rfl ?_
    refine lf_iconst lf_c1 ?_
    refine lf_iadd ?_
    refine lf_iload rfl ?_
    refine lf_iast h (lf_Log_1 hb) ?_
    intro s20 h
    refine lf_aload rfl ?_
    refine lf_getr (ci := 5) (k := 1) (lf_Log_0 hb) rfl (by decide) rfl ?_
    refine lf_iload rfl ?_
    refine lf_iconst lf_c2 ?_
    refine lf_iadd ?_
    refine lf_iload rfl ?_
    refine lf_iast h (lf_Log_1 hb) ?_
    intro s22 h
    refine lf_aload rfl ?_
    refine lf_getr (ci := 5) (k := 1) (lf_Log_0 hb) rfl (by decide) rfl ?_
    refine lf_iload rfl ?_
    refine lf_iconst lf_c3 ?_
    refine lf_iadd ?_
    refine lf_iload rfl ?_
    refine lf_iast h (lf_Log_1 hb) ?_
    intro s24 h
    refine lf_aload rfl ?_
    refine lf_dupr ?_
    refine lf_getf (ci := 5) (k := 0) (lf_Log_0 hb) rfl (by decide) rfl ?_
    refine lf_iconst lf_c1 ?_
    refine lf_iadd ?_
    refine lf_putf (ci := 5) (k := 0) h (lf_Log_0 hb) rfl (by decide) rfl rfl rfl ?_
    intro s25 h
    cases h
    exact lf_ret ⟨rfl, rfl, rfl⟩
theorem s_Beds_feetCut_14 {sc : Nat × (Nat → Int32)} {d : Nat} {Q : mj_Q} {cl : Bool} {rc rs : Nat} {b : Nat} {c1 : Int32} {c2 : Int32} {c3 : Int32} {s : lf_S} {p : Int32} (hb : lf_Beds b) (hd : 0 ≤ d) (hk : lf_wp sc d j_Beds_feetCut Q 71 [mj_U, mj_U, mj_U, mj_U, mj_U, .int p, mj_U] [] (lf_hp s) cl rc rs) : ∀ (n : Nat) (v4 : Int32) (v5 : Int32) (v6 : Int32), f_Beds_feetCut_14 b c1 c2 c3 n v4 v5 v6 s = some p → lf_wp sc d j_Beds_feetCut Q 14 [.ref b, .int c1, .int c2, .int c3, .int v4, .int v5, .int v6] [] (lf_hp s) cl rc rs := by
  intro n
  induction n with
  | zero =>
    intro v4 v5 v6 h
    exact absurd h (fun z => by cases z)
  | succ n ih =>
    intro v4 v5 v6 h
    unfold f_Beds_feetCut_14 at h
    refine lf_blk B_Beds_feetCut_14 ?_
    refine lf_iload rfl ?_
    refine lf_iload rfl ?_
    refine lf_icmp_ge h (fun h => ?_) (fun h => ?_)
    · rw [← Option.some.inj h] at hk
      exact mj_w_weak (ls := [mj_U, mj_U, mj_U, mj_U, mj_U, .int v5, mj_U]) (lf_rr (lf_ri (lf_ri (lf_ri (lf_ri (lf_rl (lf_ri (lf_r0)))))))) hk
    · refine lf_iload rfl ?_
      refine lf_iconst lf_c1 ?_
      refine lf_iadd ?_
      refine lf_iconst lf_c9 ?_
      refine lf_min rfl ?_
      refine lf_istore (L := fun y5 => [.ref b, .int c1, .int c2, .int c3, .int y5, .int v5, .int v6]) h rfl rfl (fun _ => rfl) ?_
      intro y5 h
      refine lf_iload rfl ?_
      refine lf_iload rfl ?_
      refine lf_ishr ?_
      refine lf_iconst lf_c1 ?_
      refine lf_iand ?_
      refine lf_iconst lf_c1 ?_
      refine lf_icmp_ne h (fun h => ?_) (fun h => ?_)
      · refine lf_blk B_Beds_feetCut_65 ?_
        refine lf_iinc (L := fun y6 => [.ref b, .int c1, .int c2, .int c3, .int y5, .int v5, .int y6]) h lf_c1 rfl rfl (fun _ => rfl) ?_
        intro y6 h
        refine lf_goto ?_
        exact mj_w_weak (ls := [.ref b, .int c1, .int c2, .int c3, .int y5, .int v5, .int y6]) (lf_rl (lf_rl (lf_rl (lf_rl (lf_rl (lf_rl (lf_rl (lf_r0)))))))) (ih y5 v5 y6 h)
      · refine lf_iload rfl ?_
        refine lf_iconst lf_c2 ?_
        refine lf_aload rfl ?_
        refine lf_getr (ci := 1) (k := 3) (lf_Beds_0 hb) rfl (by decide) rfl ?_
        refine lf_iload rfl ?_
        refine lf_iald h (lf_Beds_3 hb) ?_
        intro k7 h
        refine lf_imul ?_
        refine lf_iload rfl ?_
        refine lf_iconst lf_c6 ?_
        refine lf_min rfl ?_
        refine lf_imul ?_
        refine lf_iadd ?_
        refine lf_istore (L := fun y8 => [.ref b, .int c1, .int c2, .int c3, .int y5, .int y8, .int v6]) h rfl rfl (fun _ => rfl) ?_
        intro y8 h
        refine lf_iconst lf_c0 ?_
        refine lf_istore (L := fun y9 => [.ref b, .int c1, .int c2, .int c3, .int y9, .int y8, .int v6]) h rfl rfl (fun _ => rfl) ?_
        intro y9 h
        refine lf_end ?_
        refine lf_blk B_Beds_feetCut_65 ?_
        refine lf_iinc (L := fun y10 => [.ref b, .int c1, .int c2, .int c3, .int y9, .int y8, .int y10]) h lf_c1 rfl rfl (fun _ => rfl) ?_
        intro y10 h
        refine lf_goto ?_
        exact mj_w_weak (ls := [.ref b, .int c1, .int c2, .int c3, .int y9, .int y8, .int y10]) (lf_rl (lf_rl (lf_rl (lf_rl (lf_rl (lf_rl (lf_rl (lf_r0)))))))) (ih y9 y8 y10 h)
theorem s_Beds_feetCut {sc : Nat × (Nat → Int32)} {b : Nat} {x1 : Int32} {x2 : Int32} {x3 : Int32} (hb : lf_Beds b) {s : lf_S} {p : Int32} (h : f_Beds_feetCut b x1 x2 x3 s = some p) : lf_ok sc 1 j_Beds_feetCut [.ref b, .int x1, .int x2, .int x3] s (some (.int p)) s := by
  refine lf_in (D := 0) (ls := [.ref b, .int x1, .int x2, .int x3, mj_U, mj_U, mj_U]) rfl (lf_zi (by decide +kernel)) rfl ?_
  intro d hd cl rc rs
  unfold f_Beds_feetCut at h
  refine lf_blk B_Beds_feetCut_0 ?_
  refine lf_aload rfl ?_
  refine lf_getr (ci := 1) (k := 2) (lf_Beds_0 hb) rfl (by decide) rfl ?_
  refine lf_iload rfl ?_
  refine lf_iald h (lf_Beds_2 hb) ?_
  intro k1 h
  refine lf_istore (L := fun y2 => [.ref b, .int x1, .int x2, .int x3, .int y2, mj_U, mj_U]) h rfl rfl (fun _ => rfl) ?_
  intro y2 h
  refine lf_iconst lf_c0 ?_
  refine lf_istore (L := fun y3 => [.ref b, .int x1, .int x2, .int x3, .int y2, .int y3, mj_U]) h rfl rfl (fun _ => rfl) ?_
  intro y3 h
  refine lf_iconst lf_c0 ?_
  refine lf_istore (L := fun y4 => [.ref b, .int x1, .int x2, .int x3, .int y2, .int y3, .int y4]) h rfl rfl (fun _ => rfl) ?_
  intro y4 h
  refine lf_end ?_
  refine lf_loop h (fun p11 hp11 h => ?_)
  refine mj_w_weak (ls := [.ref b, .int x1, .int x2, .int x3, .int y2, .int y3, .int y4]) (lf_rl (lf_rl (lf_rl (lf_rl (lf_rl (lf_rl (lf_rl (lf_r0)))))))) ?_
  refine s_Beds_feetCut_14 hb (Nat.le_trans (by decide) hd) ?_ 5000 y2 y3 y4 hp11
  refine lf_blk B_Beds_feetCut_71 ?_
  refine lf_iload rfl ?_
  cases h
  exact lf_iret ⟨rfl, rfl, rfl⟩
theorem s_JInt_bitCount {sc : Nat × (Nat → Int32)} {x0 : Int32} {s : lf_S} {p : Int32} (h : f_JInt_bitCount x0 = some p) : lf_ok sc 1 j_JInt_bitCount [.int x0] s (some (.int p)) s := by
  refine lf_in (D := 0) (ls := [.int x0]) rfl (lf_zi (by decide +kernel)) rfl ?_
  intro d hd cl rc rs
  unfold f_JInt_bitCount at h
  refine lf_blk B_JInt_bitCount_0 ?_
  refine lf_iload rfl ?_
  refine lf_iload rfl ?_
  refine lf_iconst lf_c1 ?_
  refine lf_iushr ?_
  refine lf_iconst lf_c1431655765 ?_
  refine lf_iand ?_
  refine lf_isub ?_
  refine lf_istore (L := fun y1 => [.int y1]) h rfl rfl (fun _ => rfl) ?_
  intro y1 h
  refine lf_iload rfl ?_
  refine lf_iconst lf_c858993459 ?_
  refine lf_iand ?_
  refine lf_iload rfl ?_
  refine lf_iconst lf_c2 ?_
  refine lf_iushr ?_
  refine lf_iconst lf_c858993459 ?_
  refine lf_iand ?_
  refine lf_iadd ?_
  refine lf_istore (L := fun y2 => [.int y2]) h rfl rfl (fun _ => rfl) ?_
  intro y2 h
  refine lf_iload rfl ?_
  refine lf_iload rfl ?_
  refine lf_iconst lf_c4 ?_
  refine lf_iushr ?_
  refine lf_iadd ?_
  refine lf_iconst lf_c252645135 ?_
  refine lf_iand ?_
  refine lf_istore (L := fun y3 => [.int y3]) h rfl rfl (fun _ => rfl) ?_
  intro y3 h
  refine lf_iload rfl ?_
  refine lf_iload rfl ?_
  refine lf_iconst lf_c8 ?_
  refine lf_iushr ?_
  refine lf_iadd ?_
  refine lf_istore (L := fun y4 => [.int y4]) h rfl rfl (fun _ => rfl) ?_
  intro y4 h
  refine lf_iload rfl ?_
  refine lf_iload rfl ?_
  refine lf_iconst lf_c16 ?_
  refine lf_iushr ?_
  refine lf_iadd ?_
  refine lf_istore (L := fun y5 => [.int y5]) h rfl rfl (fun _ => rfl) ?_
  intro y5 h
  refine lf_iload rfl ?_
  refine lf_iconst lf_c63 ?_
  refine lf_iand ?_
  cases h
  exact lf_iret ⟨rfl, rfl, rfl⟩
theorem s_Beds_bestCuts_5 {sc : Nat × (Nat → Int32)} {d : Nat} {Q : mj_Q} {cl : Bool} {rc rs : Nat} {b : Nat} {c1 : Int32} {c2 : Int32} {s : lf_S} {p : Int32} (hb : lf_Beds b) (hd : 1 ≤ d) (hk : lf_wp sc d j_Beds_bestCuts Q 62 [mj_U, mj_U, mj_U, .int p, mj_U, mj_U] [] (lf_hp s) cl rc rs) : ∀ (n : Nat) (v3 : Int32) (v4 : Int32), f_Beds_bestCuts_5 b c1 c2 n v3 v4 s = some p → lf_wp sc d j_Beds_bestCuts Q 5 [.ref b, .int c1, .int c2, .int v3, .int v4, mj_U] [] (lf_hp s) cl rc rs := by
  intro n
  induction n with
  | zero =>
    intro v3 v4 h
    exact absurd h (fun z => by cases z)
  | succ n ih =>
    intro v3 v4 h
    unfold f_Beds_bestCuts_5 at h
    refine lf_blk B_Beds_bestCuts_5 ?_
    refine lf_iload rfl ?_
    refine lf_iconst lf_c1 ?_
    refine lf_iload rfl ?_
    refine lf_ishl ?_
    refine lf_icmp_ge h (fun h => ?_) (fun h => ?_)
    · rw [← Option.some.inj h] at hk
      exact mj_w_weak (ls := [mj_U, mj_U, mj_U, .int v3, mj_U, mj_U]) (lf_rr (lf_ri (lf_ri (lf_rl (lf_ri (lf_rl (lf_r0))))))) hk
    · refine lf_aload rfl ?_
      refine lf_iload rfl ?_
      refine lf_iload rfl ?_
      refine lf_iload rfl ?_
      refine lf_callVRi (as := [.int c1, .int c2, .int v4]) (rest := []) h rfl rfl (lf_Beds_0 hb) rfl (Nat.le_trans (by decide) hd) rfl rfl (fun p3 h9 => s_Beds_feetCut hb h9) ?_
      intro p3 h
      refine lf_aload rfl ?_
      refine lf_iload rfl ?_
      refine lf_iload rfl ?_
      refine lf_iload rfl ?_
      refine lf_callVRi (as := [.int c1, .int c2, .int v3]) (rest := [.int p3]) h rfl rfl (lf_Beds_0 hb) rfl (Nat.le_trans (by decide) hd) rfl rfl (fun p4 h9 => s_Beds_feetCut hb h9) ?_
      intro p4 h
      refine lf_isub ?_
      refine lf_istore (L := fun y5 => [.ref b, .int c1, .int c2, .int v3, .int v4, .int y5]) h rfl rfl (fun _ => rfl) ?_
      intro y5 h
      refine lf_iload rfl ?_
      refine lf_if_gt h (fun h => ?_) (fun h => ?_)
      · refine lf_blk B_Beds_bestCuts_53 ?_
        refine lf_iload rfl ?_
        refine lf_istore (L := fun y6 => [.ref b, .int c1, .int c2, .int y6, .int v4, .int y5]) h rfl rfl (fun _ => rfl) ?_
        intro y6 h
        refine lf_end ?_
        refine lf_blk B_Beds_bestCuts_56 ?_
        refine lf_iinc (L := fun y7 => [.ref b, .int c1, .int c2, .int y6, .int y7, .int y5]) h lf_c1 rfl rfl (fun _ => rfl) ?_
        intro y7 h
        refine lf_goto ?_
        exact mj_w_weak (ls := [.ref b, .int c1, .int c2, .int y6, .int y7, mj_U]) (lf_rl (lf_rl (lf_rl (lf_rl (lf_rl (lf_ri (lf_r0))))))) (ih y6 y7 h)
      · refine lf_iload rfl ?_
        refine lf_if_ne h (fun h => ?_) (fun h => ?_)
        · refine lf_blk B_Beds_bestCuts_56 ?_
          refine lf_iinc (L := fun y8 => [.ref b, .int c1, .int c2, .int v3, .int y8, .int y5]) h lf_c1 rfl rfl (fun _ => rfl) ?_
          intro y8 h
          refine lf_goto ?_
          exact mj_w_weak (ls := [.ref b, .int c1, .int c2, .int v3, .int y8, mj_U]) (lf_rl (lf_rl (lf_rl (lf_rl (lf_rl (lf_ri (lf_r0))))))) (ih v3 y8 h)
        · refine lf_iload rfl ?_
          refine lf_callSRi (as := [.int v4]) (rest := []) h rfl rfl (Nat.le_trans (by decide) hd) rfl rfl (fun p9 h9 => s_JInt_bitCount h9) ?_
          intro p9 h
          refine lf_iload rfl ?_
          refine lf_callSRi (as := [.int v3]) (rest := [.int p9]) h rfl rfl (Nat.le_trans (by decide) hd) rfl rfl (fun p10 h9 => s_JInt_bitCount h9) ?_
          intro p10 h
          refine lf_icmp_ge h (fun h => ?_) (fun h => ?_)
          · refine lf_blk B_Beds_bestCuts_56 ?_
            refine lf_iinc (L := fun y11 => [.ref b, .int c1, .int c2, .int v3, .int y11, .int y5]) h lf_c1 rfl rfl (fun _ => rfl) ?_
            intro y11 h
            refine lf_goto ?_
            exact mj_w_weak (ls := [.ref b, .int c1, .int c2, .int v3, .int y11, mj_U]) (lf_rl (lf_rl (lf_rl (lf_rl (lf_rl (lf_ri (lf_r0))))))) (ih v3 y11 h)
          · refine lf_end ?_
            refine lf_blk B_Beds_bestCuts_53 ?_
            refine lf_iload rfl ?_
            refine lf_istore (L := fun y12 => [.ref b, .int c1, .int c2, .int y12, .int v4, .int y5]) h rfl rfl (fun _ => rfl) ?_
            intro y12 h
            refine lf_end ?_
            refine lf_blk B_Beds_bestCuts_56 ?_
            refine lf_iinc (L := fun y13 => [.ref b, .int c1, .int c2, .int y12, .int y13, .int y5]) h lf_c1 rfl rfl (fun _ => rfl) ?_
            intro y13 h
            refine lf_goto ?_
            exact mj_w_weak (ls := [.ref b, .int c1, .int c2, .int y12, .int y13, mj_U]) (lf_rl (lf_rl (lf_rl (lf_rl (lf_rl (lf_ri (lf_r0))))))) (ih y12 y13 h)
theorem s_Beds_bestCuts {sc : Nat × (Nat → Int32)} {b : Nat} {x1 : Int32} {x2 : Int32} (hb : lf_Beds b) {s : lf_S} {p : Int32} (h : f_Beds_bestCuts b x1 x2 s = some p) : lf_ok sc 2 j_Beds_bestCuts [.ref b, .int x1, .int x2] s (some (.int p)) s := by
  refine lf_in (D := 1) (ls := [.ref b, .int x1, .int x2, mj_U, mj_U, mj_U]) rfl (lf_zi (by decide +kernel)) rfl ?_
  intro d hd cl rc rs
  unfold f_Beds_bestCuts at h
  refine lf_blk B_Beds_bestCuts_0 ?_
  refine lf_iconst lf_c0 ?_
  refine lf_istore (L := fun y1 => [.ref b, .int x1, .int x2, .int y1, mj_U, mj_U]) h rfl rfl (fun _ => rfl) ?_
  intro y1 h
  refine lf_iconst lf_c1 ?_
  refine lf_istore (L := fun y2 => [.ref b, .int x1, .int x2, .int y1, .int y2, mj_U]) h rfl rfl (fun _ => rfl) ?_
  intro y2 h
  refine lf_end ?_
  refine lf_loop h (fun p14 hp14 h => ?_)
  refine mj_w_weak (ls := [.ref b, .int x1, .int x2, .int y1, .int y2, mj_U]) (lf_rl (lf_rl (lf_rl (lf_rl (lf_rl (lf_rl (lf_r0))))))) ?_
  refine s_Beds_bestCuts_5 hb (Nat.le_trans (by decide) hd) ?_ 5000 y1 y2 hp14
  refine lf_blk B_Beds_bestCuts_62 ?_
  refine lf_iload rfl ?_
  cases h
  exact lf_iret ⟨rfl, rfl, rfl⟩
theorem s_Baskets_buyersAt_5 {sc : Nat × (Nat → Int32)} {d : Nat} {Q : mj_Q} {cl : Bool} {rc rs : Nat} {b : Nat} {c1 : Int32} {c2 : Int32} {s : lf_S} {p : Int32} (hb : lf_Baskets b) (hd : 0 ≤ d) (hk : lf_wp sc d j_Baskets_buyersAt Q 45 [mj_U, mj_U, mj_U, .int p, mj_U] [] (lf_hp s) cl rc rs) : ∀ (n : Nat) (v3 : Int32) (v4 : Int32), f_Baskets_buyersAt_5 b c1 c2 n v3 v4 s = some p → lf_wp sc d j_Baskets_buyersAt Q 5 [.ref b, .int c1, .int c2, .int v3, .int v4] [] (lf_hp s) cl rc rs := by
  intro n
  induction n with
  | zero =>
    intro v3 v4 h
    exact absurd h (fun z => by cases z)
  | succ n ih =>
    intro v3 v4 h
    unfold f_Baskets_buyersAt_5 at h
    refine lf_blk B_Baskets_buyersAt_5 ?_
    refine lf_iload rfl ?_
    refine lf_aload rfl ?_
    refine lf_getf (ci := 0) (k := 0) (lf_Baskets_0 hb) rfl (by decide) rfl ?_
    refine lf_icmp_ge h (fun h => ?_) (fun h => ?_)
    · rw [← Option.some.inj h] at hk
      exact mj_w_weak (ls := [mj_U, mj_U, mj_U, .int v3, mj_U]) (lf_rr (lf_ri (lf_ri (lf_rl (lf_ri (lf_r0)))))) hk
    · refine lf_aload rfl ?_
      refine lf_getr (ci := 0) (k := 3) (lf_Baskets_0 hb) rfl (by decide) rfl ?_
      refine lf_iload rfl ?_
      refine lf_iald h (lf_Baskets_3 hb) ?_
      intro k3 h
      refine lf_iload rfl ?_
      refine lf_icmp_ne h (fun h => ?_) (fun h => ?_)
      · refine lf_blk B_Baskets_buyersAt_39 ?_
        refine lf_iinc (L := fun y4 => [.ref b, .int c1, .int c2, .int v3, .int y4]) h lf_c1 rfl rfl (fun _ => rfl) ?_
        intro y4 h
        refine lf_goto ?_
        exact mj_w_weak (ls := [.ref b, .int c1, .int c2, .int v3, .int y4]) (lf_rl (lf_rl (lf_rl (lf_rl (lf_rl (lf_r0)))))) (ih v3 y4 h)
      · refine lf_aload rfl ?_
        refine lf_getr (ci := 0) (k := 4) (lf_Baskets_0 hb) rfl (by decide) rfl ?_
        refine lf_iload rfl ?_
        refine lf_iald h (lf_Baskets_4 hb) ?_
        intro k5 h
        refine lf_iload rfl ?_
        refine lf_icmp_lt h (fun h => ?_) (fun h => ?_)
        · refine lf_blk B_Baskets_buyersAt_39 ?_
          refine lf_iinc (L := fun y6 => [.ref b, .int c1, .int c2, .int v3, .int y6]) h lf_c1 rfl rfl (fun _ => rfl) ?_
          intro y6 h
          refine lf_goto ?_
          exact mj_w_weak (ls := [.ref b, .int c1, .int c2, .int v3, .int y6]) (lf_rl (lf_rl (lf_rl (lf_rl (lf_rl (lf_r0)))))) (ih v3 y6 h)
        · refine lf_iinc (L := fun y7 => [.ref b, .int c1, .int c2, .int y7, .int v4]) h lf_c1 rfl rfl (fun _ => rfl) ?_
          intro y7 h
          refine lf_end ?_
          refine lf_blk B_Baskets_buyersAt_39 ?_
          refine lf_iinc (L := fun y8 => [.ref b, .int c1, .int c2, .int y7, .int y8]) h lf_c1 rfl rfl (fun _ => rfl) ?_
          intro y8 h
          refine lf_goto ?_
          exact mj_w_weak (ls := [.ref b, .int c1, .int c2, .int y7, .int y8]) (lf_rl (lf_rl (lf_rl (lf_rl (lf_rl (lf_r0)))))) (ih y7 y8 h)
theorem s_Baskets_buyersAt {sc : Nat × (Nat → Int32)} {b : Nat} {x1 : Int32} {x2 : Int32} (hb : lf_Baskets b) {s : lf_S} {p : Int32} (h : f_Baskets_buyersAt b x1 x2 s = some p) : lf_ok sc 1 j_Baskets_buyersAt [.ref b, .int x1, .int x2] s (some (.int p)) s := by
  refine lf_in (D := 0) (ls := [.ref b, .int x1, .int x2, mj_U, mj_U]) rfl (lf_zi (by decide +kernel)) rfl ?_
  intro d hd cl rc rs
  unfold f_Baskets_buyersAt at h
  refine lf_blk B_Baskets_buyersAt_0 ?_
  refine lf_iconst lf_c0 ?_
  refine lf_istore (L := fun y1 => [.ref b, .int x1, .int x2, .int y1, mj_U]) h rfl rfl (fun _ => rfl) ?_
  intro y1 h
  refine lf_iconst lf_c0 ?_
  refine lf_istore (L := fun y2 => [.ref b, .int x1, .int x2, .int y1, .int y2]) h rfl rfl (fun _ => rfl) ?_
  intro y2 h
  refine lf_end ?_
  refine lf_loop h (fun p9 hp9 h => ?_)
  refine mj_w_weak (ls := [.ref b, .int x1, .int x2, .int y1, .int y2]) (lf_rl (lf_rl (lf_rl (lf_rl (lf_rl (lf_r0)))))) ?_
  refine s_Baskets_buyersAt_5 hb (Nat.le_trans (by decide) hd) ?_ 5000 y1 y2 hp9
  refine lf_blk B_Baskets_buyersAt_45 ?_
  refine lf_iload rfl ?_
  cases h
  exact lf_iret ⟨rfl, rfl, rfl⟩
theorem s_Baskets_bestPrice_7 {sc : Nat × (Nat → Int32)} {d : Nat} {Q : mj_Q} {cl : Bool} {rc rs : Nat} {b : Nat} {c1 : Int32} {s : lf_S} {p : Int32} (hb : lf_Baskets b) (hd : 1 ≤ d) (hk : lf_wp sc d j_Baskets_bestPrice Q 44 [mj_U, mj_U, .int p, mj_U, mj_U, mj_U] [] (lf_hp s) cl rc rs) : ∀ (n : Nat) (v2 : Int32) (v3 : Int32) (v4 : Int32), f_Baskets_bestPrice_7 b c1 n v2 v3 v4 s = some p → lf_wp sc d j_Baskets_bestPrice Q 7 [.ref b, .int c1, .int v2, .int v3, .int v4, mj_U] [] (lf_hp s) cl rc rs := by
  intro n
  induction n with
  | zero =>
    intro v2 v3 v4 h
    exact absurd h (fun z => by cases z)
  | succ n ih =>
    intro v2 v3 v4 h
    unfold f_Baskets_bestPrice_7 at h
    refine lf_blk B_Baskets_bestPrice_7 ?_
    refine lf_iload rfl ?_
    refine lf_iconst lf_c99 ?_
    refine lf_icmp_gt h (fun h => ?_) (fun h => ?_)
    · rw [← Option.some.inj h] at hk
      exact mj_w_weak (ls := [mj_U, mj_U, .int v2, mj_U, mj_U, mj_U]) (lf_rr (lf_ri (lf_rl (lf_ri (lf_ri (lf_rl (lf_r0))))))) hk
    · refine lf_iload rfl ?_
      refine lf_aload rfl ?_
      refine lf_iload rfl ?_
      refine lf_iload rfl ?_
      refine lf_callVRi (as := [.int v4, .int c1]) (rest := [.int v4]) h rfl rfl (lf_Baskets_0 hb) rfl (Nat.le_trans (by decide) hd) rfl rfl (fun p4 h9 => s_Baskets_buyersAt hb h9) ?_
      intro p4 h
      refine lf_imul ?_
      refine lf_istore (L := fun y5 => [.ref b, .int c1, .int v2, .int v3, .int v4, .int y5]) h rfl rfl (fun _ => rfl) ?_
      intro y5 h
      refine lf_iload rfl ?_
      refine lf_iload rfl ?_
      refine lf_icmp_le h (fun h => ?_) (fun h => ?_)
      · refine lf_blk B_Baskets_bestPrice_38 ?_
        refine lf_iinc (L := fun y6 => [.ref b, .int c1, .int v2, .int v3, .int y6, .int y5]) h lf_c1 rfl rfl (fun _ => rfl) ?_
        intro y6 h
        refine lf_goto ?_
        exact mj_w_weak (ls := [.ref b, .int c1, .int v2, .int v3, .int y6, mj_U]) (lf_rl (lf_rl (lf_rl (lf_rl (lf_rl (lf_ri (lf_r0))))))) (ih v2 v3 y6 h)
      · refine lf_iload rfl ?_
        refine lf_istore (L := fun y7 => [.ref b, .int c1, .int y7, .int v3, .int v4, .int y5]) h rfl rfl (fun _ => rfl) ?_
        intro y7 h
        refine lf_iload rfl ?_
        refine lf_istore (L := fun y8 => [.ref b, .int c1, .int y7, .int y8, .int v4, .int y5]) h rfl rfl (fun _ => rfl) ?_
        intro y8 h
        refine lf_end ?_
        refine lf_blk B_Baskets_bestPrice_38 ?_
        refine lf_iinc (L := fun y9 => [.ref b, .int c1, .int y7, .int y8, .int y9, .int y5]) h lf_c1 rfl rfl (fun _ => rfl) ?_
        intro y9 h
        refine lf_goto ?_
        exact mj_w_weak (ls := [.ref b, .int c1, .int y7, .int y8, .int y9, mj_U]) (lf_rl (lf_rl (lf_rl (lf_rl (lf_rl (lf_ri (lf_r0))))))) (ih y7 y8 y9 h)
theorem s_Baskets_bestPrice {sc : Nat × (Nat → Int32)} {b : Nat} {x1 : Int32} (hb : lf_Baskets b) {s : lf_S} {p : Int32} (h : f_Baskets_bestPrice b x1 s = some p) : lf_ok sc 2 j_Baskets_bestPrice [.ref b, .int x1] s (some (.int p)) s := by
  refine lf_in (D := 1) (ls := [.ref b, .int x1, mj_U, mj_U, mj_U, mj_U]) rfl (lf_zi (by decide +kernel)) rfl ?_
  intro d hd cl rc rs
  unfold f_Baskets_bestPrice at h
  refine lf_blk B_Baskets_bestPrice_0 ?_
  refine lf_iconst lf_c0 ?_
  refine lf_istore (L := fun y1 => [.ref b, .int x1, .int y1, mj_U, mj_U, mj_U]) h rfl rfl (fun _ => rfl) ?_
  intro y1 h
  refine lf_iconst lf_c0 ?_
  refine lf_istore (L := fun y2 => [.ref b, .int x1, .int y1, .int y2, mj_U, mj_U]) h rfl rfl (fun _ => rfl) ?_
  intro y2 h
  refine lf_iconst lf_c0 ?_
  refine lf_istore (L := fun y3 => [.ref b, .int x1, .int y1, .int y2, .int y3, mj_U]) h rfl rfl (fun _ => rfl) ?_
  intro y3 h
  refine lf_end ?_
  refine lf_loop h (fun p10 hp10 h => ?_)
  refine mj_w_weak (ls := [.ref b, .int x1, .int y1, .int y2, .int y3, mj_U]) (lf_rl (lf_rl (lf_rl (lf_rl (lf_rl (lf_rl (lf_r0))))))) ?_
  refine s_Baskets_bestPrice_7 hb (Nat.le_trans (by decide) hd) ?_ 5000 y1 y2 y3 hp10
  refine lf_blk B_Baskets_bestPrice_44 ?_
  refine lf_iload rfl ?_
  cases h
  exact lf_iret ⟨rfl, rfl, rfl⟩
theorem s_Beds_twinPairs_16 {sc : Nat × (Nat → Int32)} {d : Nat} {Q : mj_Q} {cl : Bool} {rc rs : Nat} {b : Nat} {c2 : Int32} {s : lf_S} {p : Int32} (hb : lf_Beds b) (hd : 0 ≤ d) (hk : lf_wp sc d j_Beds_twinPairs Q 63 [.ref b, .int p, .int c2, mj_U] [] (lf_hp s) cl rc rs) : ∀ (n : Nat) (v1 : Int32) (v3 : Int32), f_Beds_twinPairs_16 b c2 n v1 v3 s = some p → lf_wp sc d j_Beds_twinPairs Q 16 [.ref b, .int v1, .int c2, .int v3] [] (lf_hp s) cl rc rs := by
  intro n
  induction n with
  | zero =>
    intro v1 v3 h
    exact absurd h (fun z => by cases z)
  | succ n ih =>
    intro v1 v3 h
    unfold f_Beds_twinPairs_16 at h
    refine lf_blk B_Beds_twinPairs_16 ?_
    refine lf_iload rfl ?_
    refine lf_aload rfl ?_
    refine lf_getf (ci := 1) (k := 0) (lf_Beds_0 hb) rfl (by decide) rfl ?_
    refine lf_icmp_ge h (fun h => ?_) (fun h => ?_)
    · rw [← Option.some.inj h] at hk
      exact mj_w_weak (ls := [.ref b, .int v1, .int c2, mj_U]) (lf_rl (lf_rl (lf_rl (lf_ri (lf_r0))))) hk
    · refine lf_aload rfl ?_
      refine lf_getr (ci := 1) (k := 1) (lf_Beds_0 hb) rfl (by decide) rfl ?_
      refine lf_iload rfl ?_
      refine lf_iald h (lf_Beds_1 hb) ?_
      intro k4 h
      refine lf_aload rfl ?_
      refine lf_getr (ci := 1) (k := 1) (lf_Beds_0 hb) rfl (by decide) rfl ?_
      refine lf_iload rfl ?_
      refine lf_iald h (lf_Beds_1 hb) ?_
      intro k5 h
      refine lf_icmp_ne h (fun h => ?_) (fun h => ?_)
      · refine lf_blk B_Beds_twinPairs_57 ?_
        refine lf_iinc (L := fun y6 => [.ref b, .int v1, .int c2, .int y6]) h lf_c1 rfl rfl (fun _ => rfl) ?_
        intro y6 h
        refine lf_goto ?_
        exact mj_w_weak (ls := [.ref b, .int v1, .int c2, .int y6]) (lf_rl (lf_rl (lf_rl (lf_rl (lf_r0))))) (ih v1 y6 h)
      · refine lf_aload rfl ?_
        refine lf_getr (ci := 1) (k := 2) (lf_Beds_0 hb) rfl (by decide) rfl ?_
        refine lf_iload rfl ?_
        refine lf_iald h (lf_Beds_2 hb) ?_
        intro k7 h
        refine lf_aload rfl ?_
        refine lf_getr (ci := 1) (k := 2) (lf_Beds_0 hb) rfl (by decide) rfl ?_
        refine lf_iload rfl ?_
        refine lf_iald h (lf_Beds_2 hb) ?_
        intro k8 h
        refine lf_icmp_ne h (fun h => ?_) (fun h => ?_)
        · refine lf_blk B_Beds_twinPairs_57 ?_
          refine lf_iinc (L := fun y9 => [.ref b, .int v1, .int c2, .int y9]) h lf_c1 rfl rfl (fun _ => rfl) ?_
          intro y9 h
          refine lf_goto ?_
          exact mj_w_weak (ls := [.ref b, .int v1, .int c2, .int y9]) (lf_rl (lf_rl (lf_rl (lf_rl (lf_r0))))) (ih v1 y9 h)
        · refine lf_iinc (L := fun y10 => [.ref b, .int y10, .int c2, .int v3]) h lf_c1 rfl rfl (fun _ => rfl) ?_
          intro y10 h
          refine lf_end ?_
          refine lf_blk B_Beds_twinPairs_57 ?_
          refine lf_iinc (L := fun y11 => [.ref b, .int y10, .int c2, .int y11]) h lf_c1 rfl rfl (fun _ => rfl) ?_
          intro y11 h
          refine lf_goto ?_
          exact mj_w_weak (ls := [.ref b, .int y10, .int c2, .int y11]) (lf_rl (lf_rl (lf_rl (lf_rl (lf_r0))))) (ih y10 y11 h)
theorem s_Beds_twinPairs_4 {sc : Nat × (Nat → Int32)} {d : Nat} {Q : mj_Q} {cl : Bool} {rc rs : Nat} {b : Nat} {s : lf_S} {p : Int32} (hb : lf_Beds b) (hd : 0 ≤ d) (hk : lf_wp sc d j_Beds_twinPairs Q 69 [mj_U, .int p, mj_U, mj_U] [] (lf_hp s) cl rc rs) : ∀ (n : Nat) (v1 : Int32) (v2 : Int32), f_Beds_twinPairs_4 b n v1 v2 s = some p → lf_wp sc d j_Beds_twinPairs Q 4 [.ref b, .int v1, .int v2, mj_U] [] (lf_hp s) cl rc rs := by
  intro n
  induction n with
  | zero =>
    intro v1 v2 h
    exact absurd h (fun z => by cases z)
  | succ n ih =>
    intro v1 v2 h
    unfold f_Beds_twinPairs_4 at h
    refine lf_blk B_Beds_twinPairs_4 ?_
    refine lf_iload rfl ?_
    refine lf_aload rfl ?_
    refine lf_getf (ci := 1) (k := 0) (lf_Beds_0 hb) rfl (by decide) rfl ?_
    refine lf_icmp_ge h (fun h => ?_) (fun h => ?_)
    · rw [← Option.some.inj h] at hk
      exact mj_w_weak (ls := [mj_U, .int v1, mj_U, mj_U]) (lf_rr (lf_rl (lf_ri (lf_rl (lf_r0))))) hk
    · refine lf_iload rfl ?_
      refine lf_iconst lf_c1 ?_
      refine lf_iadd ?_
      refine lf_istore (L := fun y3 => [.ref b, .int v1, .int v2, .int y3]) h rfl rfl (fun _ => rfl) ?_
      intro y3 h
      refine lf_end ?_
      refine lf_loop h (fun p12 hp12 h => ?_)
      refine mj_w_weak (ls := [.ref b, .int v1, .int v2, .int y3]) (lf_rl (lf_rl (lf_rl (lf_rl (lf_r0))))) ?_
      refine s_Beds_twinPairs_16 hb (Nat.le_trans (by decide) hd) ?_ 5000 v1 y3 hp12
      refine lf_blk B_Beds_twinPairs_63 ?_
      refine lf_iinc (L := fun y13 => [.ref b, .int p12, .int y13, mj_U]) h lf_c1 rfl rfl (fun _ => rfl) ?_
      intro y13 h
      refine lf_goto ?_
      exact mj_w_weak (ls := [.ref b, .int p12, .int y13, mj_U]) (lf_rl (lf_rl (lf_rl (lf_rl (lf_r0))))) (ih p12 y13 h)
theorem s_Beds_twinPairs {sc : Nat × (Nat → Int32)} {b : Nat} (hb : lf_Beds b) {s : lf_S} {p : Int32} (h : f_Beds_twinPairs b s = some p) : lf_ok sc 1 j_Beds_twinPairs [.ref b] s (some (.int p)) s := by
  refine lf_in (D := 0) (ls := [.ref b, mj_U, mj_U, mj_U]) rfl (lf_zi (by decide +kernel)) rfl ?_
  intro d hd cl rc rs
  unfold f_Beds_twinPairs at h
  refine lf_blk B_Beds_twinPairs_0 ?_
  refine lf_iconst lf_c0 ?_
  refine lf_istore (L := fun y1 => [.ref b, .int y1, mj_U, mj_U]) h rfl rfl (fun _ => rfl) ?_
  intro y1 h
  refine lf_iconst lf_c0 ?_
  refine lf_istore (L := fun y2 => [.ref b, .int y1, .int y2, mj_U]) h rfl rfl (fun _ => rfl) ?_
  intro y2 h
  refine lf_end ?_
  refine lf_loop h (fun p14 hp14 h => ?_)
  refine mj_w_weak (ls := [.ref b, .int y1, .int y2, mj_U]) (lf_rl (lf_rl (lf_rl (lf_rl (lf_r0))))) ?_
  refine s_Beds_twinPairs_4 hb (Nat.le_trans (by decide) hd) ?_ 5000 y1 y2 hp14
  refine lf_blk B_Beds_twinPairs_69 ?_
  refine lf_iload rfl ?_
  cases h
  exact lf_iret ⟨rfl, rfl, rfl⟩
theorem s_Beds_ofSort_4 {sc : Nat × (Nat → Int32)} {d : Nat} {Q : mj_Q} {cl : Bool} {rc rs : Nat} {b : Nat} {c1 : Int32} {s : lf_S} {p : Int32} (hb : lf_Beds b) (hd : 0 ≤ d) (hk : lf_wp sc d j_Beds_ofSort Q 34 [mj_U, mj_U, .int p, mj_U] [] (lf_hp s) cl rc rs) : ∀ (n : Nat) (v2 : Int32) (v3 : Int32), f_Beds_ofSort_4 b c1 n v2 v3 s = some p → lf_wp sc d j_Beds_ofSort Q 4 [.ref b, .int c1, .int v2, .int v3] [] (lf_hp s) cl rc rs := by
  intro n
  induction n with
  | zero =>
    intro v2 v3 h
    exact absurd h (fun z => by cases z)
  | succ n ih =>
    intro v2 v3 h
    unfold f_Beds_ofSort_4 at h
    refine lf_blk B_Beds_ofSort_4 ?_
    refine lf_iload rfl ?_
    refine lf_aload rfl ?_
    refine lf_getf (ci := 1) (k := 0) (lf_Beds_0 hb) rfl (by decide) rfl ?_
    refine lf_icmp_ge h (fun h => ?_) (fun h => ?_)
    · rw [← Option.some.inj h] at hk
      exact mj_w_weak (ls := [mj_U, mj_U, .int v2, mj_U]) (lf_rr (lf_ri (lf_rl (lf_ri (lf_r0))))) hk
    · refine lf_aload rfl ?_
      refine lf_getr (ci := 1) (k := 1) (lf_Beds_0 hb) rfl (by decide) rfl ?_
      refine lf_iload rfl ?_
      refine lf_iald h (lf_Beds_1 hb) ?_
      intro k3 h
      refine lf_iload rfl ?_
      refine lf_icmp_ne h (fun h => ?_) (fun h => ?_)
      · refine lf_blk B_Beds_ofSort_28 ?_
        refine lf_iinc (L := fun y4 => [.ref b, .int c1, .int v2, .int y4]) h lf_c1 rfl rfl (fun _ => rfl) ?_
        intro y4 h
        refine lf_goto ?_
        exact mj_w_weak (ls := [.ref b, .int c1, .int v2, .int y4]) (lf_rl (lf_rl (lf_rl (lf_rl (lf_r0))))) (ih v2 y4 h)
      · refine lf_iload rfl ?_
        refine lf_iconst lf_c1 ?_
        refine lf_iload rfl ?_
        refine lf_ishl ?_
        refine lf_ior ?_
        refine lf_istore (L := fun y5 => [.ref b, .int c1, .int y5, .int v3]) h rfl rfl (fun _ => rfl) ?_
        intro y5 h
        refine lf_end ?_
        refine lf_blk B_Beds_ofSort_28 ?_
        refine lf_iinc (L := fun y6 => [.ref b, .int c1, .int y5, .int y6]) h lf_c1 rfl rfl (fun _ => rfl) ?_
        intro y6 h
        refine lf_goto ?_
        exact mj_w_weak (ls := [.ref b, .int c1, .int y5, .int y6]) (lf_rl (lf_rl (lf_rl (lf_rl (lf_r0))))) (ih y5 y6 h)
theorem s_Beds_ofSort {sc : Nat × (Nat → Int32)} {b : Nat} {x1 : Int32} (hb : lf_Beds b) {s : lf_S} {p : Int32} (h : f_Beds_ofSort b x1 s = some p) : lf_ok sc 1 j_Beds_ofSort [.ref b, .int x1] s (some (.int p)) s := by
  refine lf_in (D := 0) (ls := [.ref b, .int x1, mj_U, mj_U]) rfl (lf_zi (by decide +kernel)) rfl ?_
  intro d hd cl rc rs
  unfold f_Beds_ofSort at h
  refine lf_blk B_Beds_ofSort_0 ?_
  refine lf_iconst lf_c0 ?_
  refine lf_istore (L := fun y1 => [.ref b, .int x1, .int y1, mj_U]) h rfl rfl (fun _ => rfl) ?_
  intro y1 h
  refine lf_iconst lf_c0 ?_
  refine lf_istore (L := fun y2 => [.ref b, .int x1, .int y1, .int y2]) h rfl rfl (fun _ => rfl) ?_
  intro y2 h
  refine lf_end ?_
  refine lf_loop h (fun p7 hp7 h => ?_)
  refine mj_w_weak (ls := [.ref b, .int x1, .int y1, .int y2]) (lf_rl (lf_rl (lf_rl (lf_rl (lf_r0))))) ?_
  refine s_Beds_ofSort_4 hb (Nat.le_trans (by decide) hd) ?_ 5000 y1 y2 hp7
  refine lf_blk B_Beds_ofSort_34 ?_
  refine lf_iload rfl ?_
  cases h
  exact lf_iret ⟨rfl, rfl, rfl⟩
theorem s_Beds_stoolsAhead {sc : Nat × (Nat → Int32)} {b : Nat} {x1 : Int32} {x2 : Int32} (hb : lf_Beds b) {s : lf_S} {p : Int32} (h : f_Beds_stoolsAhead b x1 x2 s = some p) : lf_ok sc 1 j_Beds_stoolsAhead [.ref b, .int x1, .int x2] s (some (.int p)) s := by
  refine lf_in (D := 0) (ls := [.ref b, .int x1, .int x2, mj_U, mj_U]) rfl (lf_zi (by decide +kernel)) rfl ?_
  intro d hd cl rc rs
  unfold f_Beds_stoolsAhead at h
  refine lf_blk B_Beds_stoolsAhead_0 ?_
  refine lf_iconst lf_c1 ?_
  refine lf_iconst lf_c9 ?_
  refine lf_aload rfl ?_
  refine lf_getr (ci := 1) (k := 2) (lf_Beds_0 hb) rfl (by decide) rfl ?_
  refine lf_iload rfl ?_
  refine lf_iald h (lf_Beds_2 hb) ?_
  intro k1 h
  refine lf_isub ?_
  refine lf_max rfl ?_
  refine lf_istore (L := fun y2 => [.ref b, .int x1, .int x2, .int y2, mj_U]) h rfl rfl (fun _ => rfl) ?_
  intro y2 h
  refine lf_iconst lf_c0 ?_
  refine lf_iload rfl ?_
  refine lf_iconst lf_c1 ?_
  refine lf_iadd ?_
  refine lf_iload rfl ?_
  refine lf_isub ?_
  refine lf_max rfl ?_
  refine lf_istore (L := fun y3 => [.ref b, .int x1, .int x2, .int y2, .int y3]) h rfl rfl (fun _ => rfl) ?_
  intro y3 h
  refine lf_iconst lf_c1 ?_
  refine lf_aload rfl ?_
  refine lf_getr (ci := 1) (k := 3) (lf_Beds_0 hb) rfl (by decide) rfl ?_
  refine lf_iload rfl ?_
  refine lf_iald h (lf_Beds_3 hb) ?_
  intro k4 h
  refine lf_iload rfl ?_
  refine lf_isub ?_
  refine lf_max rfl ?_
  cases h
  exact lf_iret ⟨rfl, rfl, rfl⟩
theorem s_Log_cellOf {sc : Nat × (Nat → Int32)} {b : Nat} {x1 : Int32} {x2 : Int32} (hb : lf_Log b) {s : lf_S} {p : Int32} (h : f_Log_cellOf b x1 x2 s = some p) : lf_ok sc 1 j_Log_cellOf [.ref b, .int x1, .int x2] s (some (.int p)) s := by
  refine lf_in (D := 0) (ls := [.ref b, .int x1, .int x2]) rfl (lf_zi (by decide +kernel)) rfl ?_
  intro d hd cl rc rs
  unfold f_Log_cellOf at h
  refine lf_blk B_Log_cellOf_0 ?_
  refine lf_iload rfl ?_
  refine lf_if_lt h (fun h => ?_) (fun h => ?_)
  · refine lf_blk B_Log_cellOf_12 ?_
    refine lf_iconst lf_cm1 ?_
    cases h
    exact lf_iret ⟨rfl, rfl, rfl⟩
  · refine lf_iload rfl ?_
    refine lf_aload rfl ?_
    refine lf_getf (ci := 5) (k := 0) (lf_Log_0 hb) rfl (by decide) rfl ?_
    refine lf_icmp_lt h (fun h => ?_) (fun h => ?_)
    · refine lf_blk B_Log_cellOf_14 ?_
      refine lf_aload rfl ?_
      refine lf_getr (ci := 5) (k := 1) (lf_Log_0 hb) rfl (by decide) rfl ?_
      refine lf_aload rfl ?_
      refine lf_getf (ci := 5) (k := 0) (lf_Log_0 hb) rfl (by decide) rfl ?_
      refine lf_iconst lf_c1 ?_
      refine lf_isub ?_
      refine lf_iload rfl ?_
      refine lf_isub ?_
      refine lf_iconst lf_c4 ?_
      refine lf_imul ?_
      refine lf_iload rfl ?_
      refine lf_iadd ?_
      refine lf_iald h (lf_Log_1 hb) ?_
      intro k1 h
      cases h
      exact lf_iret ⟨rfl, rfl, rfl⟩
    · refine lf_end ?_
      refine lf_blk B_Log_cellOf_12 ?_
      refine lf_iconst lf_cm1 ?_
      cases h
      exact lf_iret ⟨rfl, rfl, rfl⟩
theorem s_Log_isCut {sc : Nat × (Nat → Int32)} {b : Nat} {x1 : Int32} {x2 : Int32} (hb : lf_Log b) {s : lf_S} {p : Bool} (h : f_Log_isCut b x1 x2 s = some p) : lf_ok sc 2 j_Log_isCut [.ref b, .int x1, .int x2] s (some (.int (lf_i p))) s := by
  refine lf_in (D := 1) (ls := [.ref b, .int x1, .int x2]) rfl lf_zb rfl ?_
  intro d hd cl rc rs
  unfold f_Log_isCut at h
  refine lf_blk B_Log_isCut_0 ?_
  refine lf_aload rfl ?_
  refine lf_iload rfl ?_
  refine lf_iconst lf_c1 ?_
  refine lf_callVRi (as := [.int x1, .int (1 : Int32)]) (rest := []) h rfl rfl (lf_Log_0 hb) rfl (Nat.le_trans (by decide) hd) rfl rfl (fun p1 h9 => s_Log_cellOf hb h9) ?_
  intro p1 h
  refine lf_iload rfl ?_
  refine lf_icmp_ne h (fun h => ?_) (fun h => ?_)
  · refine lf_blk B_Log_isCut_23 ?_
    refine lf_iconst lf_c0 ?_
    refine lf_end ?_
    refine lf_blk B_Log_isCut_24 ?_
    cases h
    exact lf_iret ⟨rfl, rfl, rfl⟩
  · refine lf_aload rfl ?_
    refine lf_iload rfl ?_
    refine lf_iconst lf_c2 ?_
    refine lf_callVRi (as := [.int x1, .int (2 : Int32)]) (rest := []) h rfl rfl (lf_Log_0 hb) rfl (Nat.le_trans (by decide) hd) rfl rfl (fun p2 h9 => s_Log_cellOf hb h9) ?_
    intro p2 h
    refine lf_if_ne h (fun h => ?_) (fun h => ?_)
    · refine lf_blk B_Log_isCut_23 ?_
      refine lf_iconst lf_c0 ?_
      refine lf_end ?_
      refine lf_blk B_Log_isCut_24 ?_
      cases h
      exact lf_iret ⟨rfl, rfl, rfl⟩
    · refine lf_iconst lf_c1 ?_
      refine lf_goto ?_
      refine lf_blk B_Log_isCut_24 ?_
      cases h
      exact lf_iret ⟨rfl, rfl, rfl⟩
theorem s_Log_latestCut_2 {sc : Nat × (Nat → Int32)} {d : Nat} {Q : mj_Q} {cl : Bool} {rc rs : Nat} {b : Nat} {c1 : Int32} {s : lf_S} {p : (Unit) ⊕ (Int32)} (hb : lf_Log b) (hd : 2 ≤ d) (hk : Sum.elim (fun q0a => lf_wp sc d j_Log_latestCut Q 32 [mj_U, mj_U, mj_U] [] (lf_hp s) cl rc rs) (fun q0b => Q (.inl (some (.int q0b))) (lf_hp s) cl) p) : ∀ (n : Nat) (v2 : Int32), f_Log_latestCut_2 b c1 n v2 s = some p → lf_wp sc d j_Log_latestCut Q 2 [.ref b, .int c1, .int v2] [] (lf_hp s) cl rc rs := by
  intro n
  induction n with
  | zero =>
    intro v2 h
    exact absurd h (fun z => by cases z)
  | succ n ih =>
    intro v2 h
    unfold f_Log_latestCut_2 at h
    refine lf_blk B_Log_latestCut_2 ?_
    refine lf_iload rfl ?_
    refine lf_aload rfl ?_
    refine lf_getf (ci := 5) (k := 0) (lf_Log_0 hb) rfl (by decide) rfl ?_
    refine lf_icmp_ge h (fun h => ?_) (fun h => ?_)
    · rw [← Option.some.inj h] at hk
      exact mj_w_weak (ls := [mj_U, mj_U, mj_U]) (lf_rr (lf_ri (lf_ri (lf_r0)))) hk
    · refine lf_aload rfl ?_
      refine lf_iload rfl ?_
      refine lf_iload rfl ?_
      refine lf_callVRb (as := [.int v2, .int c1]) (rest := []) h rfl rfl (lf_Log_0 hb) rfl (Nat.le_trans (by decide) hd) rfl rfl (fun p2 h9 => s_Log_isCut hb h9) ?_
      intro p2 h
      refine lf_ifb_eq h (fun h => ?_) (fun h => ?_)
      · refine lf_blk B_Log_latestCut_26 ?_
        refine lf_iinc (L := fun y3 => [.ref b, .int c1, .int y3]) h lf_c1 rfl rfl (fun _ => rfl) ?_
        intro y3 h
        refine lf_goto ?_
        exact mj_w_weak (ls := [.ref b, .int c1, .int y3]) (lf_rl (lf_rl (lf_rl (lf_r0)))) (ih y3 h)
      · refine lf_aload rfl ?_
        refine lf_iload rfl ?_
        refine lf_iconst lf_c0 ?_
        refine lf_callVRi (as := [.int v2, .int (0 : Int32)]) (rest := []) h rfl rfl (lf_Log_0 hb) rfl (Nat.le_trans (by decide) hd) rfl rfl (fun p4 h9 => s_Log_cellOf hb h9) ?_
        intro p4 h
        rw [← Option.some.inj h] at hk
        exact lf_iret hk
theorem s_Log_latestCut {sc : Nat × (Nat → Int32)} {b : Nat} {x1 : Int32} (hb : lf_Log b) {s : lf_S} {p : Int32} (h : f_Log_latestCut b x1 s = some p) : lf_ok sc 3 j_Log_latestCut [.ref b, .int x1] s (some (.int p)) s := by
  refine lf_in (D := 2) (ls := [.ref b, .int x1, mj_U]) rfl (lf_zi (by decide +kernel)) rfl ?_
  intro d hd cl rc rs
  unfold f_Log_latestCut at h
  refine lf_blk B_Log_latestCut_0 ?_
  refine lf_iconst lf_c0 ?_
  refine lf_istore (L := fun y1 => [.ref b, .int x1, .int y1]) h rfl rfl (fun _ => rfl) ?_
  intro y1 h
  refine lf_end ?_
  refine lf_loop h (fun p5 hp5 h => ?_)
  refine mj_w_weak (ls := [.ref b, .int x1, .int y1]) (lf_rl (lf_rl (lf_rl (lf_r0)))) ?_
  refine s_Log_latestCut_2 hb (Nat.le_trans (by decide) hd) ?_ 5000 y1 hp5
  cases p5 with
  | inl q6 =>
    dsimp only [Sum.elim_inl, Sum.elim_inr] at h ⊢
    refine lf_blk B_Log_latestCut_32 ?_
    refine lf_iconst lf_cm1 ?_
    cases h
    exact lf_iret ⟨rfl, rfl, rfl⟩
  | inr q7 =>
    dsimp only [Sum.elim_inl, Sum.elim_inr] at h ⊢
    cases h
    exact ⟨rfl, rfl, rfl⟩
theorem s_Log_cutsOf_4 {sc : Nat × (Nat → Int32)} {d : Nat} {Q : mj_Q} {cl : Bool} {rc rs : Nat} {b : Nat} {c1 : Int32} {s : lf_S} {p : Int32} (hb : lf_Log b) (hd : 2 ≤ d) (hk : lf_wp sc d j_Log_cutsOf Q 30 [mj_U, mj_U, .int p, mj_U] [] (lf_hp s) cl rc rs) : ∀ (n : Nat) (v2 : Int32) (v3 : Int32), f_Log_cutsOf_4 b c1 n v2 v3 s = some p → lf_wp sc d j_Log_cutsOf Q 4 [.ref b, .int c1, .int v2, .int v3] [] (lf_hp s) cl rc rs := by
  intro n
  induction n with
  | zero =>
    intro v2 v3 h
    exact absurd h (fun z => by cases z)
  | succ n ih =>
    intro v2 v3 h
    unfold f_Log_cutsOf_4 at h
    refine lf_blk B_Log_cutsOf_4 ?_
    refine lf_iload rfl ?_
    refine lf_aload rfl ?_
    refine lf_getf (ci := 5) (k := 0) (lf_Log_0 hb) rfl (by decide) rfl ?_
    refine lf_icmp_ge h (fun h => ?_) (fun h => ?_)
    · rw [← Option.some.inj h] at hk
      exact mj_w_weak (ls := [mj_U, mj_U, .int v2, mj_U]) (lf_rr (lf_ri (lf_rl (lf_ri (lf_r0))))) hk
    · refine lf_aload rfl ?_
      refine lf_iload rfl ?_
      refine lf_iload rfl ?_
      refine lf_callVRb (as := [.int v3, .int c1]) (rest := []) h rfl rfl (lf_Log_0 hb) rfl (Nat.le_trans (by decide) hd) rfl rfl (fun p3 h9 => s_Log_isCut hb h9) ?_
      intro p3 h
      refine lf_ifb_eq h (fun h => ?_) (fun h => ?_)
      · refine lf_blk B_Log_cutsOf_24 ?_
        refine lf_iinc (L := fun y4 => [.ref b, .int c1, .int v2, .int y4]) h lf_c1 rfl rfl (fun _ => rfl) ?_
        intro y4 h
        refine lf_goto ?_
        exact mj_w_weak (ls := [.ref b, .int c1, .int v2, .int y4]) (lf_rl (lf_rl (lf_rl (lf_rl (lf_r0))))) (ih v2 y4 h)
      · refine lf_iinc (L := fun y5 => [.ref b, .int c1, .int y5, .int v3]) h lf_c1 rfl rfl (fun _ => rfl) ?_
        intro y5 h
        refine lf_end ?_
        refine lf_blk B_Log_cutsOf_24 ?_
        refine lf_iinc (L := fun y6 => [.ref b, .int c1, .int y5, .int y6]) h lf_c1 rfl rfl (fun _ => rfl) ?_
        intro y6 h
        refine lf_goto ?_
        exact mj_w_weak (ls := [.ref b, .int c1, .int y5, .int y6]) (lf_rl (lf_rl (lf_rl (lf_rl (lf_r0))))) (ih y5 y6 h)
theorem s_Log_cutsOf {sc : Nat × (Nat → Int32)} {b : Nat} {x1 : Int32} (hb : lf_Log b) {s : lf_S} {p : Int32} (h : f_Log_cutsOf b x1 s = some p) : lf_ok sc 3 j_Log_cutsOf [.ref b, .int x1] s (some (.int p)) s := by
  refine lf_in (D := 2) (ls := [.ref b, .int x1, mj_U, mj_U]) rfl (lf_zi (by decide +kernel)) rfl ?_
  intro d hd cl rc rs
  unfold f_Log_cutsOf at h
  refine lf_blk B_Log_cutsOf_0 ?_
  refine lf_iconst lf_c0 ?_
  refine lf_istore (L := fun y1 => [.ref b, .int x1, .int y1, mj_U]) h rfl rfl (fun _ => rfl) ?_
  intro y1 h
  refine lf_iconst lf_c0 ?_
  refine lf_istore (L := fun y2 => [.ref b, .int x1, .int y1, .int y2]) h rfl rfl (fun _ => rfl) ?_
  intro y2 h
  refine lf_end ?_
  refine lf_loop h (fun p7 hp7 h => ?_)
  refine mj_w_weak (ls := [.ref b, .int x1, .int y1, .int y2]) (lf_rl (lf_rl (lf_rl (lf_rl (lf_r0))))) ?_
  refine s_Log_cutsOf_4 hb (Nat.le_trans (by decide) hd) ?_ 5000 y1 y2 hp7
  refine lf_blk B_Log_cutsOf_30 ?_
  refine lf_iload rfl ?_
  cases h
  exact lf_iret ⟨rfl, rfl, rfl⟩
