theorem B_JInt_bitCount_0 : mj_bl j_JInt_bitCount 0 = some ([(0, .iload 0), (1, .iload 0), (2, .iconst 1), (3, .iushr), (4, .iconst 1431655765), (7, .iand), (8, .isub), (9, .istore 0), (10, .iload 0), (11, .iconst 858993459), (14, .iand), (15, .iload 0), (16, .iconst 2), (17, .iushr), (18, .iconst 858993459), (21, .iand), (22, .iadd), (23, .istore 0), (24, .iload 0), (25, .iload 0), (26, .iconst 4), (27, .iushr), (28, .iadd), (29, .iconst 252645135), (32, .iand), (33, .istore 0), (34, .iload 0), (35, .iload 0), (36, .iconst 8), (38, .iushr), (39, .iadd), (40, .istore 0), (41, .iload 0), (42, .iload 0), (43, .iconst 16), (45, .iushr), (46, .iadd), (47, .istore 0), (48, .iload 0), (49, .iconst 63), (51, .iand), (52, .ireturn)], 53) := by rfl
theorem B_Beds_copy_0 : mj_bl j_Beds_copy 0 = some ([(0, .aload 0), (1, .aload 1), (2, .getfield 64), (5, .putfield 64), (8, .aload 1), (9, .getfield 65), (12, .iconst 0), (13, .aload 0), (14, .getfield 65), (17, .iconst 0), (18, .iconst 6), (20, .dup2_x1), (23, .aload 1), (24, .getfield 66), (27, .iconst 0), (28, .aload 0), (29, .getfield 66), (32, .iconst 0), (33, .iconst 6), (35, .dup2_x1), (38, .aload 1), (39, .getfield 67), (42, .iconst 0), (43, .aload 0), (44, .getfield 67), (47, .iconst 0), (48, .iconst 6), (50, .dup2_x1), (53, .aload 1), (54, .getfield 68), (57, .iconst 0), (58, .aload 0), (59, .getfield 68), (62, .iconst 0), (63, .iconst 6), (65, .dup2_x1), (68, .return_)], 69) := by rfl
theorem B_Beds_add_0 : mj_bl j_Beds_add 0 = some ([(0, .aload 0), (1, .getfield 64), (4, .iconst 6), (6, .if_icmp .ge 60), (9, .aload 0), (10, .getfield 65), (13, .aload 0), (14, .getfield 64), (17, .iload 1), (18, .iastore), (19, .aload 0), (20, .getfield 66), (23, .aload 0), (24, .getfield 64), (27, .iload 2), (28, .iastore), (29, .aload 0), (30, .getfield 67), (33, .aload 0), (34, .getfield 64), (37, .iload 3), (38, .iastore), (39, .aload 0), (40, .getfield 68), (43, .aload 0), (44, .getfield 64), (47, .iload 4), (49, .iastore), (50, .aload 0), (51, .dup), (52, .getfield 64), (55, .iconst 1), (56, .iadd), (57, .putfield 64)], 60) := by rfl
theorem B_Beds_add_60 : mj_bl j_Beds_add 60 = some ([(60, .return_)], 61) := by rfl
theorem B_Beds_grow_0 : mj_bl j_Beds_grow 0 = some ([(0, .iconst 0), (1, .istore 2)], 2) := by rfl
theorem B_Beds_grow_2 : mj_bl j_Beds_grow 2 = some ([(2, .iload 2), (3, .aload 0), (4, .getfield 64), (7, .if_icmp .ge 78), (10, .iload 1), (11, .ifCond .eq 24), (14, .aload 0), (15, .getfield 68), (18, .iload 2), (19, .iaload), (20, .iconst 5), (21, .if_icmp .ge 43)], 24) := by rfl
theorem B_Beds_grow_24 : mj_bl j_Beds_grow 24 = some ([(24, .aload 0), (25, .getfield 66), (28, .iload 2), (29, .aload 0), (30, .getfield 66), (33, .iload 2), (34, .iaload), (35, .iconst 1), (36, .iadd), (37, .iconst 9), (39, .dup_x2), (42, .iastore)], 43) := by rfl
theorem B_Beds_grow_43 : mj_bl j_Beds_grow 43 = some ([(43, .aload 0), (44, .getfield 66), (47, .iload 2), (48, .iaload), (49, .iconst 9), (51, .if_icmp .ne 72), (54, .aload 0), (55, .getfield 67), (58, .iload 2), (59, .aload 0), (60, .getfield 67), (63, .iload 2), (64, .iaload), (65, .iconst 1), (66, .isub), (67, .iconst 1), (68, .dup_x1), (71, .iastore)], 72) := by rfl
theorem B_Beds_grow_72 : mj_bl j_Beds_grow 72 = some ([(72, .iinc 2 (1)), (75, .goto 2)], 78) := by rfl
theorem B_Beds_grow_78 : mj_bl j_Beds_grow 78 = some ([(78, .return_)], 79) := by rfl
theorem B_Beds_stoolsAhead_0 : mj_bl j_Beds_stoolsAhead 0 = some ([(0, .iconst 1), (1, .iconst 9), (3, .aload 0), (4, .getfield 66), (7, .iload 1), (8, .iaload), (9, .isub), (10, .dup_x1), (13, .istore 3), (14, .iconst 0), (15, .iload 2), (16, .iconst 1), (17, .iadd), (18, .iload 3), (19, .isub), (20, .dup_x1), (23, .istore 4), (25, .iconst 1), (26, .aload 0), (27, .getfield 67), (30, .iload 1), (31, .iaload), (32, .iload 4), (34, .isub), (35, .dup_x1), (38, .ireturn)], 39) := by rfl
theorem B_Beds_partOf_0 : mj_bl j_Beds_partOf 0 = some ([(0, .iconst 0), (1, .istore 2), (2, .iconst 0), (3, .istore 3)], 4) := by rfl
theorem B_Beds_partOf_4 : mj_bl j_Beds_partOf 4 = some ([(4, .iload 3), (5, .aload 0), (6, .getfield 64), (9, .if_icmp .ge 27), (12, .iload 2), (13, .aload 0), (14, .getfield 67), (17, .iload 3), (18, .iaload), (19, .iadd), (20, .istore 2), (21, .iinc 3 (1)), (24, .goto 4)], 27) := by rfl
theorem B_Beds_partOf_27 : mj_bl j_Beds_partOf 27 = some ([(27, .iload 2), (28, .iconst 1), (29, .if_icmp .ge 36), (32, .iconst 0), (33, .goto 47)], 36) := by rfl
theorem B_Beds_partOf_36 : mj_bl j_Beds_partOf 36 = some ([(36, .iconst 100), (38, .aload 0), (39, .getfield 67), (42, .iload 1), (43, .iaload), (44, .imul), (45, .iload 2), (46, .idiv)], 47) := by rfl
theorem B_Beds_partOf_47 : mj_bl j_Beds_partOf 47 = some ([(47, .ireturn)], 48) := by rfl
theorem B_Beds_feetCut_0 : mj_bl j_Beds_feetCut 0 = some ([(0, .aload 0), (1, .getfield 66), (4, .iload 1), (5, .iaload), (6, .istore 4), (8, .iconst 0), (9, .istore 5), (11, .iconst 0), (12, .istore 6)], 14) := by rfl
theorem B_Beds_feetCut_14 : mj_bl j_Beds_feetCut 14 = some ([(14, .iload 6), (16, .iload 2), (17, .if_icmp .ge 71), (20, .iload 4), (22, .iconst 1), (23, .iadd), (24, .iconst 9), (26, .dup_x2), (29, .istore 4), (31, .iload 3), (32, .iload 6), (34, .ishr), (35, .iconst 1), (36, .iand), (37, .iconst 1), (38, .if_icmp .ne 65), (41, .iload 5), (43, .iconst 2), (44, .aload 0), (45, .getfield 67), (48, .iload 1), (49, .iaload), (50, .imul), (51, .iload 4), (53, .iconst 6), (55, .dup_x2), (58, .imul), (59, .iadd), (60, .istore 5), (62, .iconst 0), (63, .istore 4)], 65) := by rfl
theorem B_Beds_feetCut_65 : mj_bl j_Beds_feetCut 65 = some ([(65, .iinc 6 (1)), (68, .goto 14)], 71) := by rfl
theorem B_Beds_feetCut_71 : mj_bl j_Beds_feetCut 71 = some ([(71, .iload 5), (73, .ireturn)], 74) := by rfl
theorem B_Beds_bestCuts_0 : mj_bl j_Beds_bestCuts 0 = some ([(0, .iconst 0), (1, .istore 3), (2, .iconst 1), (3, .istore 4)], 5) := by rfl
theorem B_Beds_bestCuts_5 : mj_bl j_Beds_bestCuts 5 = some ([(5, .iload 4), (7, .iconst 1), (8, .iload 2), (9, .ishl), (10, .if_icmp .ge 62), (13, .aload 0), (14, .iload 1), (15, .iload 2), (16, .iload 4), (18, .invokevirtual 31988771), (21, .aload 0), (22, .iload 1), (23, .iload 2), (24, .iload 3), (25, .invokevirtual 31988771), (28, .isub), (29, .istore 5), (31, .iload 5), (33, .ifCond .gt 53), (36, .iload 5), (38, .ifCond .ne 56), (41, .iload 4), (43, .invokestatic 50464193), (46, .iload 3), (47, .invokestatic 50464193), (50, .if_icmp .ge 56)], 53) := by rfl
theorem B_Beds_bestCuts_53 : mj_bl j_Beds_bestCuts 53 = some ([(53, .iload 4), (55, .istore 3)], 56) := by rfl
theorem B_Beds_bestCuts_56 : mj_bl j_Beds_bestCuts 56 = some ([(56, .iinc 4 (1)), (59, .goto 5)], 62) := by rfl
theorem B_Beds_bestCuts_62 : mj_bl j_Beds_bestCuts 62 = some ([(62, .iload 3), (63, .ireturn)], 64) := by rfl
theorem B_Beds_twinPairs_0 : mj_bl j_Beds_twinPairs 0 = some ([(0, .iconst 0), (1, .istore 1), (2, .iconst 0), (3, .istore 2)], 4) := by rfl
theorem B_Beds_twinPairs_4 : mj_bl j_Beds_twinPairs 4 = some ([(4, .iload 2), (5, .aload 0), (6, .getfield 64), (9, .if_icmp .ge 69), (12, .iload 2), (13, .iconst 1), (14, .iadd), (15, .istore 3)], 16) := by rfl
theorem B_Beds_twinPairs_16 : mj_bl j_Beds_twinPairs 16 = some ([(16, .iload 3), (17, .aload 0), (18, .getfield 64), (21, .if_icmp .ge 63), (24, .aload 0), (25, .getfield 65), (28, .iload 2), (29, .iaload), (30, .aload 0), (31, .getfield 65), (34, .iload 3), (35, .iaload), (36, .if_icmp .ne 57), (39, .aload 0), (40, .getfield 66), (43, .iload 2), (44, .iaload), (45, .aload 0), (46, .getfield 66), (49, .iload 3), (50, .iaload), (51, .if_icmp .ne 57), (54, .iinc 1 (1))], 57) := by rfl
theorem B_Beds_twinPairs_57 : mj_bl j_Beds_twinPairs 57 = some ([(57, .iinc 3 (1)), (60, .goto 16)], 63) := by rfl
theorem B_Beds_twinPairs_63 : mj_bl j_Beds_twinPairs 63 = some ([(63, .iinc 2 (1)), (66, .goto 4)], 69) := by rfl
theorem B_Beds_twinPairs_69 : mj_bl j_Beds_twinPairs 69 = some ([(69, .iload 1), (70, .ireturn)], 71) := by rfl
theorem B_Beds_ofSort_0 : mj_bl j_Beds_ofSort 0 = some ([(0, .iconst 0), (1, .istore 2), (2, .iconst 0), (3, .istore 3)], 4) := by rfl
theorem B_Beds_ofSort_4 : mj_bl j_Beds_ofSort 4 = some ([(4, .iload 3), (5, .aload 0), (6, .getfield 64), (9, .if_icmp .ge 34), (12, .aload 0), (13, .getfield 65), (16, .iload 3), (17, .iaload), (18, .iload 1), (19, .if_icmp .ne 28), (22, .iload 2), (23, .iconst 1), (24, .iload 3), (25, .ishl), (26, .ior), (27, .istore 2)], 28) := by rfl
theorem B_Beds_ofSort_28 : mj_bl j_Beds_ofSort 28 = some ([(28, .iinc 3 (1)), (31, .goto 4)], 34) := by rfl
theorem B_Beds_ofSort_34 : mj_bl j_Beds_ofSort 34 = some ([(34, .iload 2), (35, .ireturn)], 36) := by rfl
def f_JInt_bitCount (x0 : Int32) : Option Int32 := lf_lt (x0 - ((lf_us x0 (1 : Int32)) &&& (1431655765 : Int32))) (fun y1 => lf_lt ((y1 &&& (858993459 : Int32)) + ((lf_us y1 (2 : Int32)) &&& (858993459 : Int32))) (fun y2 => lf_lt ((y2 + (lf_us y2 (4 : Int32))) &&& (252645135 : Int32)) (fun y3 => lf_lt (y3 + (lf_us y3 (8 : Int32))) (fun y4 => lf_lt (y4 + (lf_us y4 (16 : Int32))) (fun y5 => some (y5 &&& (63 : Int32)))))))
def f_Beds_copy (b : Nat) (a1 : Nat) (s : lf_S) : Option (lf_S) := lf_lt (lf_w s b 0 (s.1 a1 0)) (fun s1 => lf_cpk (0 : Int32) (0 : Int32) (6 : Int32) 6 6 (fun k3 k4 k5 => lf_lt (lf_cp s1 (a1 + 1) k3 (b + 1) k4 k5) (fun s2 => lf_cpk (0 : Int32) (0 : Int32) (6 : Int32) 6 6 (fun k7 k8 k9 => lf_lt (lf_cp s2 (a1 + 2) k7 (b + 2) k8 k9) (fun s6 => lf_cpk (0 : Int32) (0 : Int32) (6 : Int32) 6 6 (fun k11 k12 k13 => lf_lt (lf_cp s6 (a1 + 3) k11 (b + 3) k12 k13) (fun s10 => lf_cpk (0 : Int32) (0 : Int32) (6 : Int32) 6 6 (fun k15 k16 k17 => lf_lt (lf_cp s10 (a1 + 4) k15 (b + 4) k16 k17) (fun s14 => some s14)))))))))
def f_Beds_add (b : Nat) (x1 : Int32) (x2 : Int32) (x3 : Int32) (x4 : Int32) (s : lf_S) : Option (lf_S) := (if (6 : Int32) ≤ (s.1 b 0) then some s else lf_ck (s.1 b 0) 6 (fun k1 => lf_lt (lf_w s (b + 1) k1 x1) (fun s2 => lf_ck (s2.1 b 0) 6 (fun k3 => lf_lt (lf_w s2 (b + 2) k3 x2) (fun s4 => lf_ck (s4.1 b 0) 6 (fun k5 => lf_lt (lf_w s4 (b + 3) k5 x3) (fun s6 => lf_ck (s6.1 b 0) 6 (fun k7 => lf_lt (lf_w s6 (b + 4) k7 x4) (fun s8 => lf_lt (lf_w s8 b 0 ((s8.1 b 0) + (1 : Int32))) (fun s9 => some s9))))))))))
def f_Beds_grow_2 (b : Nat) (c1 : Int32) : Nat → Int32 → lf_S → Option (lf_S)
  | 0, _, _ => none
  | n + 1, v2, s => (if (s.1 b 0) ≤ v2 then some s else (if c1 = 0 then lf_ck v2 6 (fun k2 => lf_ck v2 6 (fun k3 => lf_lt (lf_w s (b + 2) k3 (lf_mn ((s.1 (b + 2) k2) + (1 : Int32)) (9 : Int32))) (fun s4 => lf_ck v2 6 (fun k5 => (if (s4.1 (b + 2) k5) = (9 : Int32) then lf_ck v2 6 (fun k7 => lf_ck v2 6 (fun k8 => lf_lt (lf_w s4 (b + 3) k8 (lf_mx ((s4.1 (b + 3) k7) - (1 : Int32)) (1 : Int32))) (fun s9 => lf_lt (v2 + (1 : Int32)) (fun y10 => f_Beds_grow_2 b c1 n y10 s9)))) else lf_lt (v2 + (1 : Int32)) (fun y6 => f_Beds_grow_2 b c1 n y6 s4)))))) else lf_ck v2 6 (fun k11 => (if (5 : Int32) ≤ (s.1 (b + 4) k11) then lf_ck v2 6 (fun k12 => (if (s.1 (b + 2) k12) = (9 : Int32) then lf_ck v2 6 (fun k14 => lf_ck v2 6 (fun k15 => lf_lt (lf_w s (b + 3) k15 (lf_mx ((s.1 (b + 3) k14) - (1 : Int32)) (1 : Int32))) (fun s16 => lf_lt (v2 + (1 : Int32)) (fun y17 => f_Beds_grow_2 b c1 n y17 s16)))) else lf_lt (v2 + (1 : Int32)) (fun y13 => f_Beds_grow_2 b c1 n y13 s))) else lf_ck v2 6 (fun k18 => lf_ck v2 6 (fun k19 => lf_lt (lf_w s (b + 2) k19 (lf_mn ((s.1 (b + 2) k18) + (1 : Int32)) (9 : Int32))) (fun s20 => lf_ck v2 6 (fun k21 => (if (s20.1 (b + 2) k21) = (9 : Int32) then lf_ck v2 6 (fun k23 => lf_ck v2 6 (fun k24 => lf_lt (lf_w s20 (b + 3) k24 (lf_mx ((s20.1 (b + 3) k23) - (1 : Int32)) (1 : Int32))) (fun s25 => lf_lt (v2 + (1 : Int32)) (fun y26 => f_Beds_grow_2 b c1 n y26 s25)))) else lf_lt (v2 + (1 : Int32)) (fun y22 => f_Beds_grow_2 b c1 n y22 s20))))))))))
def f_Beds_grow (b : Nat) (x1 : Int32) (s : lf_S) : Option (lf_S) := lf_lt (0 : Int32) (fun y1 => (f_Beds_grow_2 b x1 5000 y1 s).bind (fun p27 => some p27))
def f_Beds_stoolsAhead (b : Nat) (x1 : Int32) (x2 : Int32) (s : lf_S) : Option Int32 := lf_ck x1 6 (fun k1 => lf_lt (lf_mx (1 : Int32) ((9 : Int32) - (s.1 (b + 2) k1))) (fun y2 => lf_lt (lf_mx (0 : Int32) ((x2 + (1 : Int32)) - y2)) (fun y3 => lf_ck x1 6 (fun k4 => some (lf_mx (1 : Int32) ((s.1 (b + 3) k4) - y3))))))
def f_Beds_partOf_4 (b : Nat) (c1 : Int32) : Nat → Int32 → Int32 → lf_S → Option (Int32)
  | 0, _, _, _ => none
  | n + 1, v2, v3, s => (if (s.1 b 0) ≤ v3 then some v2 else lf_ck v3 6 (fun k3 => lf_lt (v2 + (s.1 (b + 3) k3)) (fun y4 => lf_lt (v3 + (1 : Int32)) (fun y5 => f_Beds_partOf_4 b c1 n y4 y5 s))))
def f_Beds_partOf (b : Nat) (x1 : Int32) (s : lf_S) : Option Int32 := lf_lt (0 : Int32) (fun y1 => lf_lt (0 : Int32) (fun y2 => (f_Beds_partOf_4 b x1 5000 y1 y2 s).bind (fun p6 => (if (1 : Int32) ≤ p6 then lf_ck x1 6 (fun k7 => lf_nz p6 (some (((100 : Int32) * (s.1 (b + 3) k7)) / p6))) else some (0 : Int32)))))
def f_Beds_feetCut_14 (b : Nat) (c1 : Int32) (c2 : Int32) (c3 : Int32) : Nat → Int32 → Int32 → Int32 → lf_S → Option (Int32)
  | 0, _, _, _, _ => none
  | n + 1, v4, v5, v6, s => (if c2 ≤ v6 then some v5 else lf_lt (lf_mn (v4 + (1 : Int32)) (9 : Int32)) (fun y5 => (if ((c3 >>> (v6 &&& 31)) &&& (1 : Int32)) = (1 : Int32) then lf_ck c1 6 (fun k7 => lf_lt (v5 + (((2 : Int32) * (s.1 (b + 3) k7)) * (lf_mn y5 (6 : Int32)))) (fun y8 => lf_lt (0 : Int32) (fun y9 => lf_lt (v6 + (1 : Int32)) (fun y10 => f_Beds_feetCut_14 b c1 c2 c3 n y9 y8 y10 s)))) else lf_lt (v6 + (1 : Int32)) (fun y6 => f_Beds_feetCut_14 b c1 c2 c3 n y5 v5 y6 s))))
def f_Beds_feetCut (b : Nat) (x1 : Int32) (x2 : Int32) (x3 : Int32) (s : lf_S) : Option Int32 := lf_ck x1 6 (fun k1 => lf_lt (s.1 (b + 2) k1) (fun y2 => lf_lt (0 : Int32) (fun y3 => lf_lt (0 : Int32) (fun y4 => (f_Beds_feetCut_14 b x1 x2 x3 5000 y2 y3 y4 s).bind (fun p11 => some p11)))))
def f_Beds_bestCuts_5 (b : Nat) (c1 : Int32) (c2 : Int32) : Nat → Int32 → Int32 → lf_S → Option (Int32)
  | 0, _, _, _ => none
  | n + 1, v3, v4, s => (if ((1 : Int32) <<< (c2 &&& 31)) ≤ v4 then some v3 else (f_Beds_feetCut b c1 c2 v4 s).bind (fun p3 => (f_Beds_feetCut b c1 c2 v3 s).bind (fun p4 => lf_lt (p3 - p4) (fun y5 => (if 0 < y5 then lf_lt v4 (fun y6 => lf_lt (v4 + (1 : Int32)) (fun y7 => f_Beds_bestCuts_5 b c1 c2 n y6 y7 s)) else (if y5 = 0 then (f_JInt_bitCount v4).bind (fun p9 => (f_JInt_bitCount v3).bind (fun p10 => (if p10 ≤ p9 then lf_lt (v4 + (1 : Int32)) (fun y11 => f_Beds_bestCuts_5 b c1 c2 n v3 y11 s) else lf_lt v4 (fun y12 => lf_lt (v4 + (1 : Int32)) (fun y13 => f_Beds_bestCuts_5 b c1 c2 n y12 y13 s))))) else lf_lt (v4 + (1 : Int32)) (fun y8 => f_Beds_bestCuts_5 b c1 c2 n v3 y8 s)))))))
def f_Beds_bestCuts (b : Nat) (x1 : Int32) (x2 : Int32) (s : lf_S) : Option Int32 := lf_lt (0 : Int32) (fun y1 => lf_lt (1 : Int32) (fun y2 => (f_Beds_bestCuts_5 b x1 x2 5000 y1 y2 s).bind (fun p14 => some p14)))
def f_Beds_twinPairs_16 (b : Nat) (c2 : Int32) : Nat → Int32 → Int32 → lf_S → Option (Int32)
  | 0, _, _, _ => none
  | n + 1, v1, v3, s => (if (s.1 b 0) ≤ v3 then some v1 else lf_ck c2 6 (fun k4 => lf_ck v3 6 (fun k5 => (if (s.1 (b + 1) k4) = (s.1 (b + 1) k5) then lf_ck c2 6 (fun k7 => lf_ck v3 6 (fun k8 => (if (s.1 (b + 2) k7) = (s.1 (b + 2) k8) then lf_lt (v1 + (1 : Int32)) (fun y10 => lf_lt (v3 + (1 : Int32)) (fun y11 => f_Beds_twinPairs_16 b c2 n y10 y11 s)) else lf_lt (v3 + (1 : Int32)) (fun y9 => f_Beds_twinPairs_16 b c2 n v1 y9 s)))) else lf_lt (v3 + (1 : Int32)) (fun y6 => f_Beds_twinPairs_16 b c2 n v1 y6 s)))))
def f_Beds_twinPairs_4 (b : Nat) : Nat → Int32 → Int32 → lf_S → Option (Int32)
  | 0, _, _, _ => none
  | n + 1, v1, v2, s => (if (s.1 b 0) ≤ v2 then some v1 else lf_lt (v2 + (1 : Int32)) (fun y3 => (f_Beds_twinPairs_16 b v2 5000 v1 y3 s).bind (fun p12 => lf_lt (v2 + (1 : Int32)) (fun y13 => f_Beds_twinPairs_4 b n p12 y13 s))))
def f_Beds_twinPairs (b : Nat) (s : lf_S) : Option Int32 := lf_lt (0 : Int32) (fun y1 => lf_lt (0 : Int32) (fun y2 => (f_Beds_twinPairs_4 b 5000 y1 y2 s).bind (fun p14 => some p14)))
def f_Beds_ofSort_4 (b : Nat) (c1 : Int32) : Nat → Int32 → Int32 → lf_S → Option (Int32)
  | 0, _, _, _ => none
  | n + 1, v2, v3, s => (if (s.1 b 0) ≤ v3 then some v2 else lf_ck v3 6 (fun k3 => (if (s.1 (b + 1) k3) = c1 then lf_lt (v2 ||| ((1 : Int32) <<< (v3 &&& 31))) (fun y5 => lf_lt (v3 + (1 : Int32)) (fun y6 => f_Beds_ofSort_4 b c1 n y5 y6 s)) else lf_lt (v3 + (1 : Int32)) (fun y4 => f_Beds_ofSort_4 b c1 n v2 y4 s))))
def f_Beds_ofSort (b : Nat) (x1 : Int32) (s : lf_S) : Option Int32 := lf_lt (0 : Int32) (fun y1 => lf_lt (0 : Int32) (fun y2 => (f_Beds_ofSort_4 b x1 5000 y1 y2 s).bind (fun p7 => some p7)))
theorem s_JInt_bitCount {sc : Nat × (Nat → Int32)} {x0 : Int32} {s : lf_S} {p : Int32} (h : f_JInt_bitCount x0 = some p) : lf_ok sc 1 j_JInt_bitCount [.int x0] s (some (.int p)) s := by
  refine lf_in (D := 0) (ls := [.int x0]) rfl (lf_zi (by decide +kernel)) rfl ?_
  intro d hd cl rc rs
  unfold f_JInt_bitCount at h
  refine lf_blk B_JInt_bitCount_0 ?_
  refine lf_iload rfl ?_
  refine lf_iload rfl ?_
  refine lf_iconst lf_c1 ?_
  refine lf_iushr ?_
  refine lf_iconst lf_c1431655765 ?_
  refine lf_iand ?_
  refine lf_isub ?_
  refine lf_istore (L := fun y1 => [.int y1]) h rfl rfl (fun _ => rfl) ?_
  intro y1 h
  refine lf_iload rfl ?_
  refine lf_iconst lf_c858993459 ?_
  refine lf_iand ?_
  refine lf_iload rfl ?_
  refine lf_iconst lf_c2 ?_
  refine lf_iushr ?_
  refine lf_iconst lf_c858993459 ?_
  refine lf_iand ?_
  refine lf_iadd ?_
  refine lf_istore (L := fun y2 => [.int y2]) h rfl rfl (fun _ => rfl) ?_
  intro y2 h
  refine lf_iload rfl ?_
  refine lf_iload rfl ?_
  refine lf_iconst lf_c4 ?_
  refine lf_iushr ?_
  refine lf_iadd ?_
  refine lf_iconst lf_c252645135 ?_
  refine lf_iand ?_
  refine lf_istore (L := fun y3 => [.int y3]) h rfl rfl (fun _ => rfl) ?_
  intro y3 h
  refine lf_iload rfl ?_
  refine lf_iload rfl ?_
  refine lf_iconst lf_c8 ?_
  refine lf_iushr ?_
  refine lf_iadd ?_
  refine lf_istore (L := fun y4 => [.int y4]) h rfl rfl (fun _ => rfl) ?_
  intro y4 h
  refine lf_iload rfl ?_
  refine lf_iload rfl ?_
  refine lf_iconst lf_c16 ?_
  refine lf_iushr ?_
  refine lf_iadd ?_
  refine lf_istore (L := fun y5 => [.int y5]) h rfl rfl (fun _ => rfl) ?_
  intro y5 h
  refine lf_iload rfl ?_
  refine lf_iconst lf_c63 ?_
  refine lf_iand ?_
  cases h
  exact lf_iret ⟨rfl, rfl, rfl⟩
theorem s_Beds_copy {sc : Nat × (Nat → Int32)} {b : Nat} {a1 : Nat} (hb : lf_Beds b) (ha1 : lf_Beds a1) {s : lf_S} {p : (lf_S)} (h : f_Beds_copy b a1 s = some p) : lf_ok sc 1 j_Beds_copy [.ref b, .ref a1] s (none) p := by
  refine lf_in (D := 0) (ls := [.ref b, .ref a1]) rfl (lf_zi (by decide +kernel)) rfl ?_
  intro d hd cl rc rs
  unfold f_Beds_copy at h
  refine lf_blk B_Beds_copy_0 ?_
  refine lf_aload rfl ?_
  refine lf_aload rfl ?_
  refine lf_getf (ci := 1) (k := 0) (lf_Beds_0 ha1) rfl (by decide) rfl ?_
  refine lf_putf (ci := 1) (k := 0) h (lf_Beds_0 hb) rfl (by decide) rfl rfl rfl ?_
  intro s1 h
  refine lf_aload rfl ?_
  refine lf_getr (ci := 1) (k := 1) (lf_Beds_0 ha1) rfl (by decide) rfl ?_
  refine lf_iconst lf_c0 ?_
  refine lf_aload rfl ?_
  refine lf_getr (ci := 1) (k := 1) (lf_Beds_0 hb) rfl (by decide) rfl ?_
  refine lf_iconst lf_c0 ?_
  refine lf_iconst lf_c6 ?_
  refine lf_copy h (lf_Beds_1 ha1) (lf_Beds_1 hb) rfl ?_
  intro s2 h
  refine lf_aload rfl ?_
  refine lf_getr (ci := 1) (k := 2) (lf_Beds_0 ha1) rfl (by decide) rfl ?_
  refine lf_iconst lf_c0 ?_
  refine lf_aload rfl ?_
  refine lf_getr (ci := 1) (k := 2) (lf_Beds_0 hb) rfl (by decide) rfl ?_
  refine lf_iconst lf_c0 ?_
  refine lf_iconst lf_c6 ?_
  refine lf_copy h (lf_Beds_2 ha1) (lf_Beds_2 hb) rfl ?_
  intro s6 h
  refine lf_aload rfl ?_
  refine lf_getr (ci := 1) (k := 3) (lf_Beds_0 ha1) rfl (by decide) rfl ?_
  refine lf_iconst lf_c0 ?_
  refine lf_aload rfl ?_
  refine lf_getr (ci := 1) (k := 3) (lf_Beds_0 hb) rfl (by decide) rfl ?_
  refine lf_iconst lf_c0 ?_
  refine lf_iconst lf_c6 ?_
  refine lf_copy h (lf_Beds_3 ha1) (lf_Beds_3 hb) rfl ?_
  intro s10 h
  refine lf_aload rfl ?_
  refine lf_getr (ci := 1) (k := 4) (lf_Beds_0 ha1) rfl (by decide) rfl ?_
  refine lf_iconst lf_c0 ?_
  refine lf_aload rfl ?_
  refine lf_getr (ci := 1) (k := 4) (lf_Beds_0 hb) rfl (by decide) rfl ?_
  refine lf_iconst lf_c0 ?_
  refine lf_iconst lf_c6 ?_
  refine lf_copy h (lf_Beds_4 ha1) (lf_Beds_4 hb) rfl ?_
  intro s14 h
  cases h
  exact lf_ret ⟨rfl, rfl, rfl⟩
theorem s_Beds_add {sc : Nat × (Nat → Int32)} {b : Nat} {x1 : Int32} {x2 : Int32} {x3 : Int32} {x4 : Int32} (hb : lf_Beds b) {s : lf_S} {p : (lf_S)} (h : f_Beds_add b x1 x2 x3 x4 s = some p) : lf_ok sc 1 j_Beds_add [.ref b, .int x1, .int x2, .int x3, .int x4] s (none) p := by
  refine lf_in (D := 0) (ls := [.ref b, .int x1, .int x2, .int x3, .int x4]) rfl (lf_zi (by decide +kernel)) rfl ?_
  intro d hd cl rc rs
  unfold f_Beds_add at h
  refine lf_blk B_Beds_add_0 ?_
  refine lf_aload rfl ?_
  refine lf_getf (ci := 1) (k := 0) (lf_Beds_0 hb) rfl (by decide) rfl ?_
  refine lf_iconst lf_c6 ?_
  refine lf_icmp_ge h (fun h => ?_) (fun h => ?_)
  · refine lf_blk B_Beds_add_60 ?_
    cases h
    exact lf_ret ⟨rfl, rfl, rfl⟩
  · refine lf_aload rfl ?_
    refine lf_getr (ci := 1) (k := 1) (lf_Beds_0 hb) rfl (by decide) rfl ?_
    refine lf_aload rfl ?_
    refine lf_getf (ci := 1) (k := 0) (lf_Beds_0 hb) rfl (by decide) rfl ?_
    refine lf_iload rfl ?_
    refine lf_iast h (lf_Beds_1 hb) ?_
    intro s2 h
    refine lf_aload rfl ?_
    refine lf_getr (ci := 1) (k := 2) (lf_Beds_0 hb) rfl (by decide) rfl ?_
    refine lf_aload rfl ?_
    refine lf_getf (ci := 1) (k := 0) (lf_Beds_0 hb) rfl (by decide) rfl ?_
    refine lf_iload rfl ?_
    refine lf_iast h (lf_Beds_2 hb) ?_
    intro s4 h
    refine lf_aload rfl ?_
    refine lf_getr (ci := 1) (k := 3) (lf_Beds_0 hb) rfl (by decide) rfl ?_
    refine lf_aload rfl ?_
    refine lf_getf (ci := 1) (k := 0) (lf_Beds_0 hb) rfl (by decide) rfl ?_
    refine lf_iload rfl ?_
    refine lf_iast h (lf_Beds_3 hb) ?_
    intro s6 h
    refine lf_aload rfl ?_
    refine lf_getr (ci := 1) (k := 4) (lf_Beds_0 hb) rfl (by decide) rfl ?_
    refine lf_aload rfl ?_
    refine lf_getf (ci := 1) (k := 0) (lf_Beds_0 hb) rfl (by decide) rfl ?_
    refine lf_iload rfl ?_
    refine lf_iast h (lf_Beds_4 hb) ?_
    intro s8 h
    refine lf_aload rfl ?_
    refine lf_dupr ?_
    refine lf_getf (ci := 1) (k := 0) (lf_Beds_0 hb) rfl (by decide) rfl ?_
    refine lf_iconst lf_c1 ?_
    refine lf_iadd ?_
    refine lf_putf (ci := 1) (k := 0) h (lf_Beds_0 hb) rfl (by decide) rfl rfl rfl ?_
    intro s9 h
    refine lf_end ?_
    refine lf_blk B_Beds_add_60 ?_
    cases h
    exact lf_ret ⟨rfl, rfl, rfl⟩
theorem s_Beds_grow_2 {sc : Nat × (Nat → Int32)} {d : Nat} {Q : mj_Q} {cl : Bool} {rc rs : Nat} {b : Nat} {c1 : Int32} {p : lf_S} (hb : lf_Beds b) (hd : 0 ≤ d) (hk : lf_wp sc d j_Beds_grow Q 78 [mj_U, mj_U, mj_U] [] (lf_hp p) cl rc rs) : ∀ (n : Nat) (v2 : Int32) (s : lf_S), f_Beds_grow_2 b c1 n v2 s = some p → lf_wp sc d j_Beds_grow Q 2 [.ref b, .int c1, .int v2] [] (lf_hp s) cl rc rs := by
  intro n
  induction n with
  | zero =>
    intro v2 s h
    exact absurd h (fun z => by cases z)
  | succ n ih =>
    intro v2 s h
    unfold f_Beds_grow_2 at h
    refine lf_blk B_Beds_grow_2 ?_
    refine lf_iload rfl ?_
    refine lf_aload rfl ?_
    refine lf_getf (ci := 1) (k := 0) (lf_Beds_0 hb) rfl (by decide) rfl ?_
    refine lf_icmp_ge h (fun h => ?_) (fun h => ?_)
    · rw [← Option.some.inj h] at hk
      exact mj_w_weak (ls := [mj_U, mj_U, mj_U]) (lf_rr (lf_ri (lf_ri (lf_r0)))) hk
    · refine lf_iload rfl ?_
      refine lf_if_eq h (fun h => ?_) (fun h => ?_)
      · refine lf_blk B_Beds_grow_24 ?_
        refine lf_aload rfl ?_
        refine lf_getr (ci := 1) (k := 2) (lf_Beds_0 hb) rfl (by decide) rfl ?_
        refine lf_iload rfl ?_
        refine lf_aload rfl ?_
        refine lf_getr (ci := 1) (k := 2) (lf_Beds_0 hb) rfl (by decide) rfl ?_
        refine lf_iload rfl ?_
        refine lf_iald h (lf_Beds_2 hb) ?_
        intro k2 h
        refine lf_iconst lf_c1 ?_
        refine lf_iadd ?_
        refine lf_iconst lf_c9 ?_
        refine lf_min rfl ?_
        refine lf_iast h (lf_Beds_2 hb) ?_
        intro s4 h
        refine lf_end ?_
        refine lf_blk B_Beds_grow_43 ?_
        refine lf_aload rfl ?_
        refine lf_getr (ci := 1) (k := 2) (lf_Beds_0 hb) rfl (by decide) rfl ?_
        refine lf_iload rfl ?_
        refine lf_iald h (lf_Beds_2 hb) ?_
        intro k5 h
        refine lf_iconst lf_c9 ?_
        refine lf_icmp_ne h (fun h => ?_) (fun h => ?_)
        · refine lf_blk B_Beds_grow_72 ?_
          refine lf_iinc (L := fun y6 => [.ref b, .int c1, .int y6]) h lf_c1 rfl rfl (fun _ => rfl) ?_
          intro y6 h
          refine lf_goto ?_
          exact mj_w_weak (ls := [.ref b, .int c1, .int y6]) (lf_rl (lf_rl (lf_rl (lf_r0)))) (ih y6 s4 h)
        · refine lf_aload rfl ?_
          refine lf_getr (ci := 1) (k := 3) (lf_Beds_0 hb) rfl (by decide) rfl ?_
          refine lf_iload rfl ?_
          refine lf_aload rfl ?_
          refine lf_getr (ci := 1) (k := 3) (lf_Beds_0 hb) rfl (by decide) rfl ?_
          refine lf_iload rfl ?_
          refine lf_iald h (lf_Beds_3 hb) ?_
          intro k7 h
          refine lf_iconst lf_c1 ?_
          refine lf_isub ?_
          refine lf_iconst lf_c1 ?_
          refine lf_max rfl ?_
          refine lf_iast h (lf_Beds_3 hb) ?_
          intro s9 h
          refine lf_end ?_
          refine lf_blk B_Beds_grow_72 ?_
          refine lf_iinc (L := fun y10 => [.ref b, .int c1, .int y10]) h lf_c1 rfl rfl (fun _ => rfl) ?_
          intro y10 h
          refine lf_goto ?_
          exact mj_w_weak (ls := [.ref b, .int c1, .int y10]) (lf_rl (lf_rl (lf_rl (lf_r0)))) (ih y10 s9 h)
      · refine lf_aload rfl ?_
        refine lf_getr (ci := 1) (k := 4) (lf_Beds_0 hb) rfl (by decide) rfl ?_
        refine lf_iload rfl ?_
        refine lf_iald h (lf_Beds_4 hb) ?_
        intro k11 h
        refine lf_iconst lf_c5 ?_
        refine lf_icmp_ge h (fun h => ?_) (fun h => ?_)
        · refine lf_blk B_Beds_grow_43 ?_
          refine lf_aload rfl ?_
          refine lf_getr (ci := 1) (k := 2) (lf_Beds_0 hb) rfl (by decide) rfl ?_
          refine lf_iload rfl ?_
          refine lf_iald h (lf_Beds_2 hb) ?_
          intro k12 h
          refine lf_iconst lf_c9 ?_
          refine lf_icmp_ne h (fun h => ?_) (fun h => ?_)
          · refine lf_blk B_Beds_grow_72 ?_
            refine lf_iinc (L := fun y13 => [.ref b, .int c1, .int y13]) h lf_c1 rfl rfl (fun _ => rfl) ?_
            intro y13 h
            refine lf_goto ?_
            exact mj_w_weak (ls := [.ref b, .int c1, .int y13]) (lf_rl (lf_rl (lf_rl (lf_r0)))) (ih y13 s h)
          · refine lf_aload rfl ?_
            refine lf_getr (ci := 1) (k := 3) (lf_Beds_0 hb) rfl (by decide) rfl ?_
            refine lf_iload rfl ?_
            refine lf_aload rfl ?_
            refine lf_getr (ci := 1) (k := 3) (lf_Beds_0 hb) rfl (by decide) rfl ?_
            refine lf_iload rfl ?_
            refine lf_iald h (lf_Beds_3 hb) ?_
            intro k14 h
            refine lf_iconst lf_c1 ?_
            refine lf_isub ?_
            refine lf_iconst lf_c1 ?_
            refine lf_max rfl ?_
            refine lf_iast h (lf_Beds_3 hb) ?_
            intro s16 h
            refine lf_end ?_
            refine lf_blk B_Beds_grow_72 ?_
            refine lf_iinc (L := fun y17 => [.ref b, .int c1, .int y17]) h lf_c1 rfl rfl (fun _ => rfl) ?_
            intro y17 h
            refine lf_goto ?_
            exact mj_w_weak (ls := [.ref b, .int c1, .int y17]) (lf_rl (lf_rl (lf_rl (lf_r0)))) (ih y17 s16 h)
        · refine lf_end ?_
          refine lf_blk B_Beds_grow_24 ?_
          refine lf_aload rfl ?_
          refine lf_getr (ci := 1) (k := 2) (lf_Beds_0 hb) rfl (by decide) rfl ?_
          refine lf_iload rfl ?_
          refine lf_aload rfl ?_
          refine lf_getr (ci := 1) (k := 2) (lf_Beds_0 hb) rfl (by decide) rfl ?_
          refine lf_iload rfl ?_
          refine lf_iald h (lf_Beds_2 hb) ?_
          intro k18 h
          refine lf_iconst lf_c1 ?_
          refine lf_iadd ?_
          refine lf_iconst lf_c9 ?_
          refine lf_min rfl ?_
          refine lf_iast h (lf_Beds_2 hb) ?_
          intro s20 h
          refine lf_end ?_
          refine lf_blk B_Beds_grow_43 ?_
          refine lf_aload rfl ?_
          refine lf_getr (ci := 1) (k := 2) (lf_Beds_0 hb) rfl (by decide) rfl ?_
          refine lf_iload rfl ?_
          refine lf_iald h (lf_Beds_2 hb) ?_
          intro k21 h
          refine lf_iconst lf_c9 ?_
          refine lf_icmp_ne h (fun h => ?_) (fun h => ?_)
          · refine lf_blk B_Beds_grow_72 ?_
            refine lf_iinc (L := fun y22 => [.ref b, .int c1, .int y22]) h lf_c1 rfl rfl (fun _ => rfl) ?_
            intro y22 h
            refine lf_goto ?_
            exact mj_w_weak (ls := [.ref b, .int c1, .int y22]) (lf_rl (lf_rl (lf_rl (lf_r0)))) (ih y22 s20 h)
          · refine lf_aload rfl ?_
            refine lf_getr (ci := 1) (k := 3) (lf_Beds_0 hb) rfl (by decide) rfl ?_
            refine lf_iload rfl ?_
            refine lf_aload rfl ?_
            refine lf_getr (ci := 1) (k := 3) (lf_Beds_0 hb) rfl (by decide) rfl ?_
            refine lf_iload rfl ?_
            refine lf_iald h (lf_Beds_3 hb) ?_
            intro k23 h
            refine lf_iconst lf_c1 ?_
            refine lf_isub ?_
            refine lf_iconst lf_c1 ?_
            refine lf_max rfl ?_
            refine lf_iast h (lf_Beds_3 hb) ?_
            intro s25 h
            refine lf_end ?_
            refine lf_blk B_Beds_grow_72 ?_
            refine lf_iinc (L := fun y26 => [.ref b, .int c1, .int y26]) h lf_c1 rfl rfl (fun _ => rfl) ?_
            intro y26 h
            refine lf_goto ?_
            exact mj_w_weak (ls := [.ref b, .int c1, .int y26]) (lf_rl (lf_rl (lf_rl (lf_r0)))) (ih y26 s25 h)
theorem s_Beds_grow {sc : Nat × (Nat → Int32)} {b : Nat} {x1 : Int32} (hb : lf_Beds b) {s : lf_S} {p : (lf_S)} (h : f_Beds_grow b x1 s = some p) : lf_ok sc 1 j_Beds_grow [.ref b, .int x1] s (none) p := by
  refine lf_in (D := 0) (ls := [.ref b, .int x1, mj_U]) rfl (lf_zi (by decide +kernel)) rfl ?_
  intro d hd cl rc rs
  unfold f_Beds_grow at h
  refine lf_blk B_Beds_grow_0 ?_
  refine lf_iconst lf_c0 ?_
  refine lf_istore (L := fun y1 => [.ref b, .int x1, .int y1]) h rfl rfl (fun _ => rfl) ?_
  intro y1 h
  refine lf_end ?_
  refine lf_loop h (fun p27 hp27 h => ?_)
  refine mj_w_weak (ls := [.ref b, .int x1, .int y1]) (lf_rl (lf_rl (lf_rl (lf_r0)))) ?_
  refine s_Beds_grow_2 hb (Nat.le_trans (by decide) hd) ?_ 5000 y1 s hp27
  refine lf_blk B_Beds_grow_78 ?_
  cases h
  exact lf_ret ⟨rfl, rfl, rfl⟩
theorem s_Beds_stoolsAhead {sc : Nat × (Nat → Int32)} {b : Nat} {x1 : Int32} {x2 : Int32} (hb : lf_Beds b) {s : lf_S} {p : Int32} (h : f_Beds_stoolsAhead b x1 x2 s = some p) : lf_ok sc 1 j_Beds_stoolsAhead [.ref b, .int x1, .int x2] s (some (.int p)) s := by
  refine lf_in (D := 0) (ls := [.ref b, .int x1, .int x2, mj_U, mj_U]) rfl (lf_zi (by decide +kernel)) rfl ?_
  intro d hd cl rc rs
  unfold f_Beds_stoolsAhead at h
  refine lf_blk B_Beds_stoolsAhead_0 ?_
  refine lf_iconst lf_c1 ?_
  refine lf_iconst lf_c9 ?_
  refine lf_aload rfl ?_
  refine lf_getr (ci := 1) (k := 2) (lf_Beds_0 hb) rfl (by decide) rfl ?_
  refine lf_iload rfl ?_
  refine lf_iald h (lf_Beds_2 hb) ?_
  intro k1 h
  refine lf_isub ?_
  refine lf_max rfl ?_
  refine lf_istore (L := fun y2 => [.ref b, .int x1, .int x2, .int y2, mj_U]) h rfl rfl (fun _ => rfl) ?_
  intro y2 h
  refine lf_iconst lf_c0 ?_
  refine lf_iload rfl ?_
  refine lf_iconst lf_c1 ?_
  refine lf_iadd ?_
  refine lf_iload rfl ?_
  refine lf_isub ?_
  refine lf_max rfl ?_
  refine lf_istore (L := fun y3 => [.ref b, .int x1, .int x2, .int y2, .int y3]) h rfl rfl (fun _ => rfl) ?_
  intro y3 h
  refine lf_iconst lf_c1 ?_
  refine lf_aload rfl ?_
  refine lf_getr (ci := 1) (k := 3) (lf_Beds_0 hb) rfl (by decide) rfl ?_
  refine lf_iload rfl ?_
  refine lf_iald h (lf_Beds_3 hb) ?_
  intro k4 h
  refine lf_iload rfl ?_
  refine lf_isub ?_
  refine lf_max rfl ?_
  cases h
  exact lf_iret ⟨rfl, rfl, rfl⟩
theorem s_Beds_partOf_4 {sc : Nat × (Nat → Int32)} {d : Nat} {Q : mj_Q} {cl : Bool} {rc rs : Nat} {b : Nat} {c1 : Int32} {s : lf_S} {p : Int32} (hb : lf_Beds b) (hd : 0 ≤ d) (hk : lf_wp sc d j_Beds_partOf Q 27 [.ref b, .int c1, .int p, mj_U] [] (lf_hp s) cl rc rs) : ∀ (n : Nat) (v2 : Int32) (v3 : Int32), f_Beds_partOf_4 b c1 n v2 v3 s = some p → lf_wp sc d j_Beds_partOf Q 4 [.ref b, .int c1, .int v2, .int v3] [] (lf_hp s) cl rc rs := by
  intro n
  induction n with
  | zero =>
    intro v2 v3 h
    exact absurd h (fun z => by cases z)
  | succ n ih =>
    intro v2 v3 h
    unfold f_Beds_partOf_4 at h
    refine lf_blk B_Beds_partOf_4 ?_
    refine lf_iload rfl ?_
    refine lf_aload rfl ?_
    refine lf_getf (ci := 1) (k := 0) (lf_Beds_0 hb) rfl (by decide) rfl ?_
    refine lf_icmp_ge h (fun h => ?_) (fun h => ?_)
    · rw [← Option.some.inj h] at hk
      exact mj_w_weak (ls := [.ref b, .int c1, .int v2, mj_U]) (lf_rl (lf_rl (lf_rl (lf_ri (lf_r0))))) hk
    · refine lf_iload rfl ?_
      refine lf_aload rfl ?_
      refine lf_getr (ci := 1) (k := 3) (lf_Beds_0 hb) rfl (by decide) rfl ?_
      refine lf_iload rfl ?_
      refine lf_iald h (lf_Beds_3 hb) ?_
      intro k3 h
      refine lf_iadd ?_
      refine lf_istore (L := fun y4 => [.ref b, .int c1, .int y4, .int v3]) h rfl rfl (fun _ => rfl) ?_
      intro y4 h
      refine lf_iinc (L := fun y5 => [.ref b, .int c1, .int y4, .int y5]) h lf_c1 rfl rfl (fun _ => rfl) ?_
      intro y5 h
      refine lf_goto ?_
      exact mj_w_weak (ls := [.ref b, .int c1, .int y4, .int y5]) (lf_rl (lf_rl (lf_rl (lf_rl (lf_r0))))) (ih y4 y5 h)
theorem s_Beds_partOf {sc : Nat × (Nat → Int32)} {b : Nat} {x1 : Int32} (hb : lf_Beds b) {s : lf_S} {p : Int32} (h : f_Beds_partOf b x1 s = some p) : lf_ok sc 1 j_Beds_partOf [.ref b, .int x1] s (some (.int p)) s := by
  refine lf_in (D := 0) (ls := [.ref b, .int x1, mj_U, mj_U]) rfl (lf_zi (by decide +kernel)) rfl ?_
  intro d hd cl rc rs
  unfold f_Beds_partOf at h
  refine lf_blk B_Beds_partOf_0 ?_
  refine lf_iconst lf_c0 ?_
  refine lf_istore (L := fun y1 => [.ref b, .int x1, .int y1, mj_U]) h rfl rfl (fun _ => rfl) ?_
  intro y1 h
  refine lf_iconst lf_c0 ?_
  refine lf_istore (L := fun y2 => [.ref b, .int x1, .int y1, .int y2]) h rfl rfl (fun _ => rfl) ?_
  intro y2 h
  refine lf_end ?_
  refine lf_loop h (fun p6 hp6 h => ?_)
  refine mj_w_weak (ls := [.ref b, .int x1, .int y1, .int y2]) (lf_rl (lf_rl (lf_rl (lf_rl (lf_r0))))) ?_
  refine s_Beds_partOf_4 hb (Nat.le_trans (by decide) hd) ?_ 5000 y1 y2 hp6
  refine lf_blk B_Beds_partOf_27 ?_
  refine lf_iload rfl ?_
  refine lf_iconst lf_c1 ?_
  refine lf_icmp_ge h (fun h => ?_) (fun h => ?_)
  · refine lf_blk B_Beds_partOf_36 ?_
    refine lf_iconst lf_c100 ?_
    refine lf_aload rfl ?_
    refine lf_getr (ci := 1) (k := 3) (lf_Beds_0 hb) rfl (by decide) rfl ?_
    refine lf_iload rfl ?_
    refine lf_iald h (lf_Beds_3 hb) ?_
    intro k7 h
    refine lf_imul ?_
    refine lf_iload rfl ?_
    refine lf_idivz h ?_
    intro h
    refine lf_end ?_
    refine lf_blk B_Beds_partOf_47 ?_
    cases h
    exact lf_iret ⟨rfl, rfl, rfl⟩
  · refine lf_iconst lf_c0 ?_
    refine lf_goto ?_
    refine lf_blk B_Beds_partOf_47 ?_
    cases h
    exact lf_iret ⟨rfl, rfl, rfl⟩
theorem s_Beds_feetCut_14 {sc : Nat × (Nat → Int32)} {d : Nat} {Q : mj_Q} {cl : Bool} {rc rs : Nat} {b : Nat} {c1 : Int32} {c2 : Int32} {c3 : Int32} {s : lf_S} {p : Int32} (hb : lf_Beds b) (hd : 0 ≤ d) (hk : lf_wp sc d j_Beds_feetCut Q 71 [mj_U, mj_U, mj_U, mj_U, mj_U, .int p, mj_U] [] (lf_hp s) cl rc rs) : ∀ (n : Nat) (v4 : Int32) (v5 : Int32) (v6 : Int32), f_Beds_feetCut_14 b c1 c2 c3 n v4 v5 v6 s = some p → lf_wp sc d j_Beds_feetCut Q 14 [.ref b, .int c1, .int c2, .int c3, .int v4, .int v5, .int v6] [] (lf_hp s) cl rc rs := by
  intro n
  induction n with
  | zero =>
    intro v4 v5 v6 h
    exact absurd h (fun z => by cases z)
  | succ n ih =>
    intro v4 v5 v6 h
    unfold f_Beds_feetCut_14 at h
    refine lf_blk B_Beds_feetCut_14 ?_
    refine lf_iload rfl ?_
    refine lf_iload rfl ?_
    refine lf_icmp_ge h (fun h => ?_) (fun h => ?_)
    · rw [← Option.some.inj h] at hk
      exact mj_w_weak (ls := [mj_U, mj_U, mj_U, mj_U, mj_U, .int v5, mj_U]) (lf_rr (lf_ri (lf_ri (lf_ri (lf_ri (lf_rl (lf_ri (lf_r0)))))))) hk
    · refine lf_iload rfl ?_
      refine lf_iconst lf_c1 ?_
      refine lf_iadd ?_
      refine lf_iconst lf_c9 ?_
      refine lf_min rfl ?_
      refine lf_istore (L := fun y5 => [.ref b, .int c1, .int c2, .int c3, .int y5, .int v5, .int v6]) h rfl rfl (fun _ => rfl) ?_
      intro y5 h
      refine lf_iload rfl ?_
      refine lf_iload rfl ?_
      refine lf_ishr ?_
      refine lf_iconst lf_c1 ?_
      refine lf_iand ?_
      refine lf_iconst lf_c1 ?_
      refine lf_icmp_ne h (fun h => ?_) (fun h => ?_)
      · refine lf_blk B_Beds_feetCut_65 ?_
        refine lf_iinc (L := fun y6 => [.ref b, .int c1, .int c2, .int c3, .int y5, .int v5, .int y6]) h lf_c1 rfl rfl (fun _ => rfl) ?_
        intro y6 h
        refine lf_goto ?_
        exact mj_w_weak (ls := [.ref b, .int c1, .int c2, .int c3, .int y5, .int v5, .int y6]) (lf_rl (lf_rl (lf_rl (lf_rl (lf_rl (lf_rl (lf_rl (lf_r0)))))))) (ih y5 v5 y6 h)
      · refine lf_iload rfl ?_
        refine lf_iconst lf_c2 ?_
        refine lf_aload rfl ?_
        refine lf_getr (ci := 1) (k := 3) (lf_Beds_0 hb) rfl (by decide) rfl ?_
        refine lf_iload rfl ?_
        refine lf_iald h (lf_Beds_3 hb) ?_
        intro k7 h
        refine lf_imul ?_
        refine lf_iload rfl ?_
        refine lf_iconst lf_c6 ?_
        refine lf_min rfl ?_
        refine lf_imul ?_
        refine lf_iadd ?_
        refine lf_istore (L := fun y8 => [.ref b, .int c1, .int c2, .int c3, .int y5, .int y8, .int v6]) h rfl rfl (fun _ => rfl) ?_
        intro y8 h
        refine lf_iconst lf_c0 ?_
        refine lf_istore (L := fun y9 => [.ref b, .int c1, .int c2, .int c3, .int y9, .int y8, .int v6]) h rfl rfl (fun _ => rfl) ?_
        intro y9 h
        refine lf_end ?_
        refine lf_blk B_Beds_feetCut_65 ?_
        refine lf_iinc (L := fun y10 => [.ref b, .int c1, .int c2, .int c3, .int y9, .int y8, .int y10]) h lf_c1 rfl rfl (fun _ => rfl) ?_
        intro y10 h
        refine lf_goto ?_
        exact mj_w_weak (ls := [.ref b, .int c1, .int c2, .int c3, .int y9, .int y8, .int y10]) (lf_rl (lf_rl (lf_rl (lf_rl (lf_rl (lf_rl (lf_rl (lf_r0)))))))) (ih y9 y8 y10 h)
theorem s_Beds_feetCut {sc : Nat × (Nat → Int32)} {b : Nat} {x1 : Int32} {x2 : Int32} {x3 : Int32} (hb : lf_Beds b) {s : lf_S} {p : Int32} (h : f_Beds_feetCut b x1 x2 x3 s = some p) : lf_ok sc 1 j_Beds_feetCut [.ref b, .int x1, .int x2, .int x3] s (some (.int p)) s := by
  refine lf_in (D := 0) (ls := [.ref b, .int x1, .int x2, .int x3, mj_U, mj_U, mj_U]) rfl (lf_zi (by decide +kernel)) rfl ?_
  intro d hd cl rc rs
  unfold f_Beds_feetCut at h
  refine lf_blk B_Beds_feetCut_0 ?_
  refine lf_aload rfl ?_
  refine lf_getr (ci := 1) (k := 2) (lf_Beds_0 hb) rfl (by decide) rfl ?_
  refine lf_iload rfl ?_
  refine lf_iald h (lf_Beds_2 hb) ?_
  intro k1 h
  refine lf_istore (L := fun y2 => [.ref b, .int x1, .int x2, .int x3, .int y2, mj_U, mj_U]) h rfl rfl (fun _ => rfl) ?_
  intro y2 h
  refine lf_iconst lf_c0 ?_
  refine lf_istore (L := fun y3 => [.ref b, .int x1, .int x2, .int x3, .int y2, .int y3, mj_U]) h rfl rfl (fun _ => rfl) ?_
  intro y3 h
  refine lf_iconst lf_c0 ?_
  refine lf_istore (L := fun y4 => [.ref b, .int x1, .int x2, .int x3, .int y2, .int y3, .int y4]) h rfl rfl (fun _ => rfl) ?_
  intro y4 h
  refine lf_end ?_
  refine lf_loop h (fun p11 hp11 h => ?_)
  refine mj_w_weak (ls := [.ref b, .int x1, .int x2, .int x3, .int y2, .int y3, .int y4]) (lf_rl (lf_rl (lf_rl (lf_rl (lf_rl (lf_rl (lf_rl (lf_r0)))))))) ?_
  refine s_Beds_feetCut_14 hb (Nat.le_trans (by decide) hd) ?_ 5000 y2 y3 y4 hp11
  refine lf_blk B_Beds_feetCut_71 ?_
  refine lf_iload rfl ?_
  cases h
  exact lf_iret ⟨rfl, rfl, rfl⟩
theorem s_Beds_bestCuts_5 {sc : Nat × (Nat → Int32)} {d : Nat} {Q : mj_Q} {cl : Bool} {rc rs : Nat} {b : Nat} {c1 : Int32} {c2 : Int32} {s : lf_S} {p : Int32} (hb : lf_Beds b) (hd : 1 ≤ d) (hk : lf_wp sc d j_Beds_bestCuts Q 62 [mj_U, mj_U, mj_U, .int p, mj_U, mj_U] [] (lf_hp s) cl rc rs) : ∀ (n : Nat) (v3 : Int32) (v4 : Int32), f_Beds_bestCuts_5 b c1 c2 n v3 v4 s = some p → lf_wp sc d j_Beds_bestCuts Q 5 [.ref b, .int c1, .int c2, .int v3, .int v4, mj_U] [] (lf_hp s) cl rc rs := by
  intro n
  induction n with
  | zero =>
    intro v3 v4 h
    exact absurd h (fun z => by cases z)
  | succ n ih =>
    intro v3 v4 h
    unfold f_Beds_bestCuts_5 at h
    refine lf_blk B_Beds_bestCuts_5 ?_
    refine lf_iload rfl ?_
    refine lf_iconst lf_c1 ?_
    refine lf_iload rfl ?_
    refine lf_ishl ?_
    refine lf_icmp_ge h (fun h => ?_) (fun h => ?_)
    · rw [← Option.some.inj h] at hk
      exact mj_w_weak (ls := [mj_U, mj_U, mj_U, .int v3, mj_U, mj_U]) (lf_rr (lf_ri (lf_ri (lf_rl (lf_ri (lf_rl (lf_r0))))))) hk
    · refine lf_aload rfl ?_
      refine lf_iload rfl ?_
      refine lf_iload rfl ?_
      refine lf_iload rfl ?_
      refine lf_callVRi (as := [.int c1, .int c2, .int v4]) (rest := []) h rfl rfl (lf_Beds_0 hb) rfl (Nat.le_trans (by decide) hd) rfl rfl (fun p3 h9 => s_Beds_feetCut hb h9) ?_
      intro p3 h
      refine lf_aload rfl ?_
      refine lf_iload rfl ?_
      refine lf_iload rfl ?_
      refine lf_iload rfl ?_
      refine lf_callVRi (as := [.int c1, .int c2, .int v3]) (rest := [.int p3]) h rfl rfl (lf_Beds_0 hb) rfl (Nat.le_trans (by decide) hd) rfl rfl (fun p4 h9 => s_Beds_feetCut hb h9) ?_
      intro p4 h
      refine lf_isub ?_
      refine lf_istore (L := fun y5 => [.ref b, .int c1, .int c2, .int v3, .int v4, .int y5]) h rfl rfl (fun _ => rfl) ?_
      intro y5 h
      refine lf_iload rfl ?_
      refine lf_if_gt h (fun h => ?_) (fun h => ?_)
      · refine lf_blk B_Beds_bestCuts_53 ?_
        refine lf_iload rfl ?_
        refine lf_istore (L := fun y6 => [.ref b, .int c1, .int c2, .int y6, .int v4, .int y5]) h rfl rfl (fun _ => rfl) ?_
        intro y6 h
        refine lf_end ?_
        refine lf_blk B_Beds_bestCuts_56 ?_
        refine lf_iinc (L := fun y7 => [.ref b, .int c1, .int c2, .int y6, .int y7, .int y5]) h lf_c1 rfl rfl (fun _ => rfl) ?_
        intro y7 h
        refine lf_goto ?_
        exact mj_w_weak (ls := [.ref b, .int c1, .int c2, .int y6, .int y7, mj_U]) (lf_rl (lf_rl (lf_rl (lf_rl (lf_rl (lf_ri (lf_r0))))))) (ih y6 y7 h)
      · refine lf_iload rfl ?_
        refine lf_if_ne h (fun h => ?_) (fun h => ?_)
        · refine lf_blk B_Beds_bestCuts_56 ?_
          refine lf_iinc (L := fun y8 => [.ref b, .int c1, .int c2, .int v3, .int y8, .int y5]) h lf_c1 rfl rfl (fun _ => rfl) ?_
          intro y8 h
          refine lf_goto ?_
          exact mj_w_weak (ls := [.ref b, .int c1, .int c2, .int v3, .int y8, mj_U]) (lf_rl (lf_rl (lf_rl (lf_rl (lf_rl (lf_ri (lf_r0))))))) (ih v3 y8 h)
        · refine lf_iload rfl ?_
          refine lf_callSRi (as := [.int v4]) (rest := []) h rfl rfl (Nat.le_trans (by decide) hd) rfl rfl (fun p9 h9 => s_JInt_bitCount h9) ?_
          intro p9 h
          refine lf_iload rfl ?_
          refine lf_callSRi (as := [.int v3]) (rest := [.int p9]) h rfl rfl (Nat.le_trans (by decide) hd) rfl rfl (fun p10 h9 => s_JInt_bitCount h9) ?_
          intro p10 h
          refine lf_icmp_ge h (fun h => ?_) (fun h => ?_)
          · refine lf_blk B_Beds_bestCuts_56 ?_
            refine lf_iinc (L := fun y11 => [.ref b, .int c1, .int c2, .int v3, .int y11, .int y5]) h lf_c1 rfl rfl (fun _ => rfl) ?_
            intro y11 h
            refine lf_goto ?_
            exact mj_w_weak (ls := [.ref b, .int c1, .int c2, .int v3, .int y11, mj_U]) (lf_rl (lf_rl (lf_rl (lf_rl (lf_rl (lf_ri (lf_r0))))))) (ih v3 y11 h)
          · refine lf_end ?_
            refine lf_blk B_Beds_bestCuts_53 ?_
            refine lf_iload rfl ?_
            refine lf_istore (L := fun y12 => [.ref b, .int c1, .int c2, .int y12, .int v4, .int y5]) h rfl rfl (fun _ => rfl) ?_
            intro y12 h
            refine lf_end ?_
            refine lf_blk B_Beds_bestCuts_56 ?_
            refine lf_iinc (L := fun y13 => [.ref b, .int c1, .int c2, .int y12, .int y13, .int y5]) h lf_c1 rfl rfl (fun _ => rfl) ?_
            intro y13 h
            refine lf_goto ?_
            exact mj_w_weak (ls := [.ref b, .int c1, .int c2, .int y12, .int y13, mj_U]) (lf_rl (lf_rl (lf_rl (lf_rl (lf_rl (lf_ri (lf_r0))))))) (ih y12 y13 h)
theorem s_Beds_bestCuts {sc : Nat × (Nat → Int32)} {b : Nat} {x1 : Int32} {x2 : Int32} (hb : lf_Beds b) {s : lf_S} {p : Int32} (h : f_Beds_bestCuts b x1 x2 s = some p) : lf_ok sc 2 j_Beds_bestCuts [.ref b, .int x1, .int x2] s (some (.int p)) s := by
  refine lf_in (D := 1) (ls := [.ref b, .int x1, .int x2, mj_U, mj_U, mj_U]) rfl (lf_zi (by decide +kernel)) rfl ?_
  intro d hd cl rc rs
  unfold f_Beds_bestCuts at h
  refine lf_blk B_Beds_bestCuts_0 ?_
  refine lf_iconst lf_c0 ?_
  refine lf_istore (L := fun y1 => [.ref b, .int x1, .int x2, .int y1, mj_U, mj_U]) h rfl rfl (fun _ => rfl) ?_
  intro y1 h
  refine lf_iconst lf_c1 ?_
  refine lf_istore (L := fun y2 => [.ref b, .int x1, .int x2, .int y1, .int y2, mj_U]) h rfl rfl (fun _ => rfl) ?_
  intro y2 h
  refine lf_end ?_
  refine lf_loop h (fun p14 hp14 h => ?_)
  refine mj_w_weak (ls := [.ref b, .int x1, .int x2, .int y1, .int y2, mj_U]) (lf_rl (lf_rl (lf_rl (lf_rl (lf_rl (lf_rl (lf_r0))))))) ?_
  refine s_Beds_bestCuts_5 hb (Nat.le_trans (by decide) hd) ?_ 5000 y1 y2 hp14
  refine lf_blk B_Beds_bestCuts_62 ?_
  refine lf_iload rfl ?_
  cases h
  exact lf_iret ⟨rfl, rfl, rfl⟩
theorem s_Beds_twinPairs_16 {sc : Nat × (Nat → Int32)} {d : Nat} {Q : mj_Q} {cl : Bool} {rc rs : Nat} {b : Nat} {c2 : Int32} {s : lf_S} {p : Int32} (hb : lf_Beds b) (hd : 0 ≤ d) (hk : lf_wp sc d j_Beds_twinPairs Q 63 [.ref b, .int p, .int c2, mj_U] [] (lf_hp s) cl rc rs) : ∀ (n : Nat) (v1 : Int32) (v3 : Int32), f_Beds_twinPairs_16 b c2 n v1 v3 s = some p → lf_wp sc d j_Beds_twinPairs Q 16 [.ref b, .int v1, .int c2, .int v3] [] (lf_hp s) cl rc rs := by
  intro n
  induction n with
  | zero =>
    intro v1 v3 h
    exact absurd h (fun z => by cases z)
  | succ n ih =>
    intro v1 v3 h
    unfold f_Beds_twinPairs_16 at h
    refine lf_blk B_Beds_twinPairs_16 ?_
    refine lf_iload rfl ?_
    refine lf_aload rfl ?_
    refine lf_getf (ci := 1) (k := 0) (lf_Beds_0 hb) rfl (by decide) rfl ?_
    refine lf_icmp_ge h (fun h => ?_) (fun h => ?_)
    · rw [← Option.some.inj h] at hk
      exact mj_w_weak (ls := [.ref b, .int v1, .int c2, mj_U]) (lf_rl (lf_rl (lf_rl (lf_ri (lf_r0))))) hk
    · refine lf_aload rfl ?_
      refine lf_getr (ci := 1) (k := 1) (lf_Beds_0 hb) rfl (by decide) rfl ?_
      refine lf_iload rfl ?_
      refine lf_iald h (lf_Beds_1 hb) ?_
      intro k4 h
      refine lf_aload rfl ?_
      refine lf_getr (ci := 1) (k := 1) (lf_Beds_0 hb) rfl (by decide) rfl ?_
      refine lf_iload rfl ?_
      refine lf_iald h (lf_Beds_1 hb) ?_
      intro k5 h
      refine lf_icmp_ne h (fun h => ?_) (fun h => ?_)
      · refine lf_blk B_Beds_twinPairs_57 ?_
        refine lf_iinc (L := fun y6 => [.ref b, .int v1, .int c2, .int y6]) h lf_c1 rfl rfl (fun _ => rfl) ?_
        intro y6 h
        refine lf_goto ?_
        exact mj_w_weak (ls := [.ref b, .int v1, .int c2, .int y6]) (lf_rl (lf_rl (lf_rl (lf_rl (lf_r0))))) (ih v1 y6 h)
      · refine lf_aload rfl ?_
        refine lf_getr (ci := 1) (k := 2) (lf_Beds_0 hb) rfl (by decide) rfl ?_
        refine lf_iload rfl ?_
        refine lf_iald h (lf_Beds_2 hb) ?_
        intro k7 h
        refine lf_aload rfl ?_
        refine lf_getr (ci := 1) (k := 2) (lf_Beds_0 hb) rfl (by decide) rfl ?_
        refine lf_iload rfl ?_
        refine lf_iald h (lf_Beds_2 hb) ?_
        intro k8 h
        refine lf_icmp_ne h (fun h => ?_) (fun h => ?_)
        · refine lf_blk B_Beds_twinPairs_57 ?_
          refine lf_iinc (L := fun y9 => [.ref b, .int v1, .int c2, .int y9]) h lf_c1 rfl rfl (fun _ => rfl) ?_
          intro y9 h
          refine lf_goto ?_
          exact mj_w_weak (ls := [.ref b, .int v1, .int c2, .int y9]) (lf_rl (lf_rl (lf_rl (lf_rl (lf_r0))))) (ih v1 y9 h)
        · refine lf_iinc (L := fun y10 => [.ref b, .int y10, .int c2, .int v3]) h lf_c1 rfl rfl (fun _ => rfl) ?_
          intro y10 h
          refine lf_end ?_
          refine lf_blk B_Beds_twinPairs_57 ?_
          refine lf_iinc (L := fun y11 => [.ref b, .int y10, .int c2, .int y11]) h lf_c1 rfl rfl (fun _ => rfl) ?_
          intro y11 h
          refine lf_goto ?_
          exact mj_w_weak (ls := [.ref b, .int y10, .int c2, .int y11]) (lf_rl (lf_rl (lf_rl (lf_rl (lf_r0))))) (ih y10 y11 h)
theorem s_Beds_twinPairs_4 {sc : Nat × (Nat → Int32)} {d : Nat} {Q : mj_Q} {cl : Bool} {rc rs : Nat} {b : Nat} {s : lf_S} {p : Int32} (hb : lf_Beds b) (hd : 0 ≤ d) (hk : lf_wp sc d j_Beds_twinPairs Q 69 [mj_U, .int p, mj_U, mj_U] [] (lf_hp s) cl rc rs) : ∀ (n : Nat) (v1 : Int32) (v2 : Int32), f_Beds_twinPairs_4 b n v1 v2 s = some p → lf_wp sc d j_Beds_twinPairs Q 4 [.ref b, .int v1, .int v2, mj_U] [] (lf_hp s) cl rc rs := by
  intro n
  induction n with
  | zero =>
    intro v1 v2 h
    exact absurd h (fun z => by cases z)
  | succ n ih =>
    intro v1 v2 h
    unfold f_Beds_twinPairs_4 at h
    refine lf_blk B_Beds_twinPairs_4 ?_
    refine lf_iload rfl ?_
    refine lf_aload rfl ?_
    refine lf_getf (ci := 1) (k := 0) (lf_Beds_0 hb) rfl (by decide) rfl ?_
    refine lf_icmp_ge h (fun h => ?_) (fun h => ?_)
    · rw [← Option.some.inj h] at hk
      exact mj_w_weak (ls := [mj_U, .int v1, mj_U, mj_U]) (lf_rr (lf_rl (lf_ri (lf_rl (lf_r0))))) hk
    · refine lf_iload rfl ?_
      refine lf_iconst lf_c1 ?_
      refine lf_iadd ?_
      refine lf_istore (L := fun y3 => [.ref b, .int v1, .int v2, .int y3]) h rfl rfl (fun _ => rfl) ?_
      intro y3 h
      refine lf_end ?_
      refine lf_loop h (fun p12 hp12 h => ?_)
      refine mj_w_weak (ls := [.ref b, .int v1, .int v2, .int y3]) (lf_rl (lf_rl (lf_rl (lf_rl (lf_r0))))) ?_
      refine s_Beds_twinPairs_16 hb (Nat.le_trans (by decide) hd) ?_ 5000 v1 y3 hp12
      refine lf_blk B_Beds_twinPairs_63 ?_
      refine lf_iinc (L := fun y13 => [.ref b, .int p12, .int y13, mj_U]) h lf_c1 rfl rfl (fun _ => rfl) ?_
      intro y13 h
      refine lf_goto ?_
      exact mj_w_weak (ls := [.ref b, .int p12, .int y13, mj_U]) (lf_rl (lf_rl (lf_rl (lf_rl (lf_r0))))) (ih p12 y13 h)
theorem s_Beds_twinPairs {sc : Nat × (Nat → Int32)} {b : Nat} (hb : lf_Beds b) {s : lf_S} {p : Int32} (h : f_Beds_twinPairs b s = some p) : lf_ok sc 1 j_Beds_twinPairs [.ref b] s (some (.int p)) s := by
  refine lf_in (D := 0) (ls := [.ref b, mj_U, mj_U, mj_U]) rfl (lf_zi (by decide +kernel)) rfl ?_
  intro d hd cl rc rs
  unfold f_Beds_twinPairs at h
  refine lf_blk B_Beds_twinPairs_0 ?_
  refine lf_iconst lf_c0 ?_
  refine lf_istore (L := fun y1 => [.ref b, .int y1, mj_U, mj_U]) h rfl rfl (fun _ => rfl) ?_
  intro y1 h
  refine lf_iconst lf_c0 ?_
  refine lf_istore (L := fun y2 => [.ref b, .int y1, .int y2, mj_U]) h rfl rfl (fun _ => rfl) ?_
  intro y2 h
  refine lf_end ?_
  refine lf_loop h (fun p14 hp14 h => ?_)
  refine mj_w_weak (ls := [.ref b, .int y1, .int y2, mj_U]) (lf_rl (lf_rl (lf_rl (lf_rl (lf_r0))))) ?_
  refine s_Beds_twinPairs_4 hb (Nat.le_trans (by decide) hd) ?_ 5000 y1 y2 hp14
  refine lf_blk B_Beds_twinPairs_69 ?_
  refine lf_iload rfl ?_
  cases h
  exact lf_iret ⟨rfl, rfl, rfl⟩
theorem s_Beds_ofSort_4 {sc : Nat × (Nat → Int32)} {d : Nat} {Q : mj_Q} {cl : Bool} {rc rs : Nat} {b : Nat} {c1 : Int32} {s : lf_S} {p : Int32} (hb : lf_Beds b) (hd : 0 ≤ d) (hk : lf_wp sc d j_Beds_ofSort Q 34 [mj_U, mj_U, .int p, mj_U] [] (lf_hp s) cl rc rs) : ∀ (n : Nat) (v2 : Int32) (v3 : Int32), f_Beds_ofSort_4 b c1 n v2 v3 s = some p → lf_wp sc d j_Beds_ofSort Q 4 [.ref b, .int c1, .int v2, .int v3] [] (lf_hp s) cl rc rs := by
  intro n
  induction n with
  | zero =>
    intro v2 v3 h
    exact absurd h (fun z => by cases z)
  | succ n ih =>
    intro v2 v3 h
    unfold f_Beds_ofSort_4 at h
    refine lf_blk B_Beds_ofSort_4 ?_
    refine lf_iload rfl ?_
    refine lf_aload rfl ?_
    refine lf_getf (ci := 1) (k := 0) (lf_Beds_0 hb) rfl (by decide) rfl ?_
    refine lf_icmp_ge h (fun h => ?_) (fun h => ?_)
    · rw [← Option.some.inj h] at hk
      exact mj_w_weak (ls := [mj_U, mj_U, .int v2, mj_U]) (lf_rr (lf_ri (lf_rl (lf_ri (lf_r0))))) hk
    · refine lf_aload rfl ?_
      refine lf_getr (ci := 1) (k := 1) (lf_Beds_0 hb) rfl (by decide) rfl ?_
      refine lf_iload rfl ?_
      refine lf_iald h (lf_Beds_1 hb) ?_
      intro k3 h
      refine lf_iload rfl ?_
      refine lf_icmp_ne h (fun h => ?_) (fun h => ?_)
      · refine lf_blk B_Beds_ofSort_28 ?_
        refine lf_iinc (L := fun y4 => [.ref b, .int c1, .int v2, .int y4]) h lf_c1 rfl rfl (fun _ => rfl) ?_
        intro y4 h
        refine lf_goto ?_
        exact mj_w_weak (ls := [.ref b, .int c1, .int v2, .int y4]) (lf_rl (lf_rl (lf_rl (lf_rl (lf_r0))))) (ih v2 y4 h)
      · refine lf_iload rfl ?_
        refine lf_iconst lf_c1 ?_
        refine lf_iload rfl ?_
        refine lf_ishl ?_
        refine lf_ior ?_
        refine lf_istore (L := fun y5 => [.ref b, .int c1, .int y5, .int v3]) h rfl rfl (fun _ => rfl) ?_
        intro y5 h
        refine lf_end ?_
        refine lf_blk B_Beds_ofSort_28 ?_
        refine lf_iinc (L := fun y6 => [.ref b, .int c1, .int y5, .int y6]) h lf_c1 rfl rfl (fun _ => rfl) ?_
        intro y6 h
        refine lf_goto ?_
        exact mj_w_weak (ls := [.ref b, .int c1, .int y5, .int y6]) (lf_rl (lf_rl (lf_rl (lf_rl (lf_r0))))) (ih y5 y6 h)
theorem s_Beds_ofSort {sc : Nat × (Nat → Int32)} {b : Nat} {x1 : Int32} (hb : lf_Beds b) {s : lf_S} {p : Int32} (h : f_Beds_ofSort b x1 s = some p) : lf_ok sc 1 j_Beds_ofSort [.ref b, .int x1] s (some (.int p)) s := by
  refine lf_in (D := 0) (ls := [.ref b, .int x1, mj_U, mj_U]) rfl (lf_zi (by decide +kernel)) rfl ?_
  intro d hd cl rc rs
  unfold f_Beds_ofSort at h
  refine lf_blk B_Beds_ofSort_0 ?_
  refine lf_iconst lf_c0 ?_
  refine lf_istore (L := fun y1 => [.ref b, .int x1, .int y1, mj_U]) h rfl rfl (fun _ => rfl) ?_
  intro y1 h
  refine lf_iconst lf_c0 ?_
  refine lf_istore (L := fun y2 => [.ref b, .int x1, .int y1, .int y2]) h rfl rfl (fun _ => rfl) ?_
  intro y2 h
  refine lf_end ?_
  refine lf_loop h (fun p7 hp7 h => ?_)
  refine mj_w_weak (ls := [.ref b, .int x1, .int y1, .int y2]) (lf_rl (lf_rl (lf_rl (lf_rl (lf_r0))))) ?_
  refine s_Beds_ofSort_4 hb (Nat.le_trans (by decide) hd) ?_ 5000 y1 y2 hp7
  refine lf_blk B_Beds_ofSort_34 ?_
  refine lf_iload rfl ?_
  cases h
  exact lf_iret ⟨rfl, rfl, rfl⟩
