-- by program (wip/whole/facts.py): what the tables say of each method
def mj_hx (k : Nat) : Nat := match k with
  | 13 => 0
  | 15 => 1
  | 24 => 3
  | 26 => 2
  | 59 => 4
  | _ => 0
theorem mj_hx_ok : ∀ k ∈ [13, 15, 24, 26, 59], k ≠ 0 ∧ Cond.classLink RL k (mj_xn (mj_hx k)) ∈ lw_tbl := by decide +kernel
def mj_hhs : List (Nat × List (Nat × Nat × Nat × Nat)) := [(45092258, [((0), (8), (11), (13)), ((0), (8), (14), (15))]), (45223330, [((0), (8), (11), (13))]), (45356452, [((0), (10), (13), (24)), ((0), (10), (17), (26))]), (45487524, [((0), (10), (13), (24)), ((0), (10), (17), (26))]), (45618596, [((0), (10), (13), (24))]), (45750693, [((0), (19), (22), (24)), ((0), (19), (26), (13))]), (45879715, [((0), (16), (19), (24))]), (46010787, [((0), (9), (12), (24))]), (46142884, [((0), (10), (13), (24))]), (46273956, [((0), (10), (13), (24)), ((0), (10), (17), (26))]), (46404003, [((0), (9), (12), (13))]), (46535075, [((0), (9), (12), (24)), ((0), (9), (15), (59))]), (46667172, [((0), (10), (13), (24)), ((0), (10), (17), (13)), ((0), (10), (21), (59))]), (46798244, [((0), (10), (13), (24)), ((0), (10), (17), (13)), ((0), (10), (21), (59))]), (46929316, [((0), (10), (13), (24)), ((0), (10), (17), (13)), ((0), (10), (21), (59))]), (47058338, [((0), (5), (8), (24)), ((0), (5), (11), (59))]), (47191460, [((0), (10), (13), (24)), ((0), (10), (17), (13))]), (47322532, [((0), (10), (13), (13)), ((0), (10), (17), (59))]), (47452579, [((0), (9), (12), (24))]), (47583651, [((0), (9), (12), (24)), ((0), (9), (15), (59))]), (47715748, [((0), (10), (13), (24)), ((0), (10), (17), (13))]), (47846820, [((0), (10), (13), (24)), ((0), (10), (17), (13))]), (47976867, [((0), (9), (12), (24)), ((0), (9), (15), (13))]), (48108964, [((0), (10), (13), (24)), ((0), (10), (17), (13))]), (48239011, [((0), (9), (12), (13))]), (48369058, [((0), (8), (11), (13))]), (48501155, [((0), (9), (12), (24))]), (48632227, [((0), (9), (12), (24))]), (48764324, [((0), (10), (13), (24))]), (48895396, [((0), (10), (13), (24)), ((0), (10), (17), (13))]), (49025443, [((0), (9), (12), (24))]), (49156515, [((0), (9), (12), (24))]), (49288612, [((0), (10), (13), (13))]), (49418659, [((0), (9), (12), (26))]), (49549731, [((0), (9), (12), (24))]), (49682853, [((0), (12), (15), (24)), ((0), (12), (19), (13))]), (49812900, [((0), (10), (13), (13))]), (49943972, [((0), (10), (13), (13))]), (50075044, [((0), (10), (13), (24))]), (50206116, [((0), (10), (13), (26))])]
def mj_hh (j : Nat) : List (Nat × Nat × Nat × Nat) := (mj_hhs.lookup j).getD []
theorem mj_hh_hd : ∀ q ∈ mj_hhs, mj_hd q.1 = q.2.map (fun e => (e.1, e.2.1, e.2.2.1, mj_hx e.2.2.2)) ∧ ∀ e ∈ q.2, e.2.2.2 ∈ [13, 15, 24, 26, 59] := by decide +kernel
theorem mj_hh_hd0 : mj_hds.map (fun q => q.1) = mj_hhs.map (fun q => q.1) := by decide +kernel
def mj_facts (j : Nat) (y : MethodName) (cc : ByteArray) (ret : Option FieldType) (kind : Nat) : Prop :=
  (Cond.initialized y.cls ∈ lw_tbl ∧ plainName y.cls = true ∧ y.cls = mj_cn (j / 32 % 32) ∧ (y.cls ≠ "java/lang/invoke/MethodHandle" ∧ y.cls ≠ "java/lang/invoke/VarHandle" ∧ (parseMethodDescriptor y.desc).map (fun d => d.parameters.length) = some (j % 32))) ∧
  (mj_hh j = [] → Cond.code y cc (mj_nl j) ret ∈ lw_tbl) ∧ (mj_hh j ≠ [] → Cond.codeWith y cc (mj_nl j) ret (mj_hh j) ∈ lw_tbl ∧ kind = 0) ∧
  (kind = 0 → Cond.static y ∈ lw_tbl) ∧ (kind ≠ 0 → Cond.instanceMethod y ∈ lw_tbl) ∧ (kind = 1 → Cond.selects y.cls y y ∈ lw_tbl) ∧ (kind = 2 → y.name = "<init>" ∧ ret = none) ∧ (mj_zb j = 1 ↔ ret = some .boolean)
theorem mf_Main_init : mj_facts 2336 yX11_init cX11_init (none) 2 := ⟨⟨List.mem_of_getElem? (i := 118) (by decide +kernel), by decide +kernel, rfl, by decide +kernel, by decide +kernel, by decide +kernel⟩, fun _ => List.mem_of_getElem? (i := 150) (by decide +kernel), fun h => absurd (by decide +kernel) h, fun h => by cases h, fun _ => List.mem_of_getElem? (i := 149) (by decide +kernel), fun h => by cases h, fun _ => ⟨rfl, rfl⟩, by decide +kernel⟩
theorem mf_Main_feed : mj_facts 137509 yX11_feed cX11_feed (some .int) 1 := ⟨⟨List.mem_of_getElem? (i := 118) (by decide +kernel), by decide +kernel, rfl, by decide +kernel, by decide +kernel, by decide +kernel⟩, fun _ => List.mem_of_getElem? (i := 514) (by decide +kernel), fun h => absurd (by decide +kernel) h, fun h => by cases h, fun _ => List.mem_of_getElem? (i := 512) (by decide +kernel), fun _ => List.mem_of_getElem? (i := 513) (by decide +kernel), fun h => by cases h, by decide +kernel⟩
theorem mf_Main_end : mj_facts 330017 yX11_end cX11_end (some .boolean) 1 := ⟨⟨List.mem_of_getElem? (i := 118) (by decide +kernel), by decide +kernel, rfl, by decide +kernel, by decide +kernel, by decide +kernel⟩, fun _ => List.mem_of_getElem? (i := 522) (by decide +kernel), fun h => absurd (by decide +kernel) h, fun h => by cases h, fun _ => List.mem_of_getElem? (i := 520) (by decide +kernel), fun _ => List.mem_of_getElem? (i := 521) (by decide +kernel), fun h => by cases h, by decide +kernel⟩
theorem mf_Main_holt : mj_facts 395552 yX11_holt cX11_holt (some .int) 1 := ⟨⟨List.mem_of_getElem? (i := 118) (by decide +kernel), by decide +kernel, rfl, by decide +kernel, by decide +kernel, by decide +kernel⟩, fun _ => List.mem_of_getElem? (i := 663) (by decide +kernel), fun h => absurd (by decide +kernel) h, fun h => by cases h, fun _ => List.mem_of_getElem? (i := 661) (by decide +kernel), fun _ => List.mem_of_getElem? (i := 662) (by decide +kernel), fun h => by cases h, by decide +kernel⟩
theorem mf_Main_law : mj_facts 526624 yX11_law cX11_law (some .int) 1 := ⟨⟨List.mem_of_getElem? (i := 118) (by decide +kernel), by decide +kernel, rfl, by decide +kernel, by decide +kernel, by decide +kernel⟩, fun _ => List.mem_of_getElem? (i := 922) (by decide +kernel), fun h => absurd (by decide +kernel) h, fun h => by cases h, fun _ => List.mem_of_getElem? (i := 920) (by decide +kernel), fun _ => List.mem_of_getElem? (i := 921) (by decide +kernel), fun h => by cases h, by decide +kernel⟩
theorem mf_Main_fault : mj_facts 656672 yX11_fault cX11_fault (some .int) 1 := ⟨⟨List.mem_of_getElem? (i := 118) (by decide +kernel), by decide +kernel, rfl, by decide +kernel, by decide +kernel, by decide +kernel⟩, fun _ => List.mem_of_getElem? (i := 526) (by decide +kernel), fun h => absurd (by decide +kernel) h, fun h => by cases h, fun _ => List.mem_of_getElem? (i := 524) (by decide +kernel), fun _ => List.mem_of_getElem? (i := 525) (by decide +kernel), fun h => by cases h, by decide +kernel⟩
theorem mf_Main_bed : mj_facts 789794 yX11_bed cX11_bed (some .int) 1 := ⟨⟨List.mem_of_getElem? (i := 118) (by decide +kernel), by decide +kernel, rfl, by decide +kernel, by decide +kernel, by decide +kernel⟩, fun _ => List.mem_of_getElem? (i := 992) (by decide +kernel), fun h => absurd (by decide +kernel) h, fun h => by cases h, fun _ => List.mem_of_getElem? (i := 990) (by decide +kernel), fun _ => List.mem_of_getElem? (i := 991) (by decide +kernel), fun h => by cases h, by decide +kernel⟩
theorem mf_Main_basket : mj_facts 921890 yX11_basket cX11_basket (some .int) 1 := ⟨⟨List.mem_of_getElem? (i := 118) (by decide +kernel), by decide +kernel, rfl, by decide +kernel, by decide +kernel, by decide +kernel⟩, fun _ => List.mem_of_getElem? (i := 1079) (by decide +kernel), fun h => absurd (by decide +kernel) h, fun h => by cases h, fun _ => List.mem_of_getElem? (i := 1077) (by decide +kernel), fun _ => List.mem_of_getElem? (i := 1078) (by decide +kernel), fun h => by cases h, by decide +kernel⟩
theorem mf_Main_run : mj_facts 1051938 yX11_run cX11_run (some .int) 1 := ⟨⟨List.mem_of_getElem? (i := 118) (by decide +kernel), by decide +kernel, rfl, by decide +kernel, by decide +kernel, by decide +kernel⟩, fun _ => List.mem_of_getElem? (i := 1146) (by decide +kernel), fun h => absurd (by decide +kernel) h, fun h => by cases h, fun _ => List.mem_of_getElem? (i := 1144) (by decide +kernel), fun _ => List.mem_of_getElem? (i := 1145) (by decide +kernel), fun h => by cases h, by decide +kernel⟩
theorem mf_Main_over : mj_facts 1250595 yX11_over cX11_over (some .boolean) 1 := ⟨⟨List.mem_of_getElem? (i := 118) (by decide +kernel), by decide +kernel, rfl, by decide +kernel, by decide +kernel, by decide +kernel⟩, fun _ => List.mem_of_getElem? (i := 1154) (by decide +kernel), fun h => absurd (by decide +kernel) h, fun h => by cases h, fun _ => List.mem_of_getElem? (i := 1152) (by decide +kernel), fun _ => List.mem_of_getElem? (i := 1153) (by decide +kernel), fun h => by cases h, by decide +kernel⟩
theorem mf_Main_sound : mj_facts 1378593 yX11_sound cX11_sound (some .boolean) 1 := ⟨⟨List.mem_of_getElem? (i := 118) (by decide +kernel), by decide +kernel, rfl, by decide +kernel, by decide +kernel, by decide +kernel⟩, fun _ => List.mem_of_getElem? (i := 1163) (by decide +kernel), fun h => absurd (by decide +kernel) h, fun h => by cases h, fun _ => List.mem_of_getElem? (i := 1161) (by decide +kernel), fun _ => List.mem_of_getElem? (i := 1162) (by decide +kernel), fun h => by cases h, by decide +kernel⟩
theorem mf_Main_store : mj_facts 1444129 yX11_store cX11_store (some .int) 1 := ⟨⟨List.mem_of_getElem? (i := 118) (by decide +kernel), by decide +kernel, rfl, by decide +kernel, by decide +kernel, by decide +kernel⟩, fun _ => List.mem_of_getElem? (i := 1170) (by decide +kernel), fun h => absurd (by decide +kernel) h, fun h => by cases h, fun _ => List.mem_of_getElem? (i := 1168) (by decide +kernel), fun _ => List.mem_of_getElem? (i := 1169) (by decide +kernel), fun h => by cases h, by decide +kernel⟩
theorem mf_Main_hand : mj_facts 1576226 yX11_hand cX11_hand (some .int) 1 := ⟨⟨List.mem_of_getElem? (i := 118) (by decide +kernel), by decide +kernel, rfl, by decide +kernel, by decide +kernel, by decide +kernel⟩, fun _ => List.mem_of_getElem? (i := 1180) (by decide +kernel), fun h => absurd (by decide +kernel) h, fun h => by cases h, fun _ => List.mem_of_getElem? (i := 1178) (by decide +kernel), fun _ => List.mem_of_getElem? (i := 1179) (by decide +kernel), fun h => by cases h, by decide +kernel⟩
theorem mf_Main_order : mj_facts 1707298 yX11_order cX11_order (some .int) 1 := ⟨⟨List.mem_of_getElem? (i := 118) (by decide +kernel), by decide +kernel, rfl, by decide +kernel, by decide +kernel, by decide +kernel⟩, fun _ => List.mem_of_getElem? (i := 1191) (by decide +kernel), fun h => absurd (by decide +kernel) h, fun h => by cases h, fun _ => List.mem_of_getElem? (i := 1189) (by decide +kernel), fun _ => List.mem_of_getElem? (i := 1190) (by decide +kernel), fun h => by cases h, by decide +kernel⟩
theorem mf_Main_years : mj_facts 1837345 yX11_years cX11_years (some .int) 1 := ⟨⟨List.mem_of_getElem? (i := 118) (by decide +kernel), by decide +kernel, rfl, by decide +kernel, by decide +kernel, by decide +kernel⟩, fun _ => List.mem_of_getElem? (i := 1204) (by decide +kernel), fun h => absurd (by decide +kernel) h, fun h => by cases h, fun _ => List.mem_of_getElem? (i := 1202) (by decide +kernel), fun _ => List.mem_of_getElem? (i := 1203) (by decide +kernel), fun h => by cases h, by decide +kernel⟩
theorem mf_Main_cut : mj_facts 1971489 yX11_cut cX11_cut (some .int) 1 := ⟨⟨List.mem_of_getElem? (i := 118) (by decide +kernel), by decide +kernel, rfl, by decide +kernel, by decide +kernel, by decide +kernel⟩, fun _ => List.mem_of_getElem? (i := 1264) (by decide +kernel), fun h => absurd (by decide +kernel) h, fun h => by cases h, fun _ => List.mem_of_getElem? (i := 1262) (by decide +kernel), fun _ => List.mem_of_getElem? (i := 1263) (by decide +kernel), fun h => by cases h, by decide +kernel⟩
theorem mf_Main_buy : mj_facts 2100514 yX11_buy cX11_buy (some .int) 1 := ⟨⟨List.mem_of_getElem? (i := 118) (by decide +kernel), by decide +kernel, rfl, by decide +kernel, by decide +kernel, by decide +kernel⟩, fun _ => List.mem_of_getElem? (i := 1292) (by decide +kernel), fun h => absurd (by decide +kernel) h, fun h => by cases h, fun _ => List.mem_of_getElem? (i := 1290) (by decide +kernel), fun _ => List.mem_of_getElem? (i := 1291) (by decide +kernel), fun h => by cases h, by decide +kernel⟩
theorem mf_Main_sell : mj_facts 2231586 yX11_sell cX11_sell (some .int) 1 := ⟨⟨List.mem_of_getElem? (i := 118) (by decide +kernel), by decide +kernel, rfl, by decide +kernel, by decide +kernel, by decide +kernel⟩, fun _ => List.mem_of_getElem? (i := 1299) (by decide +kernel), fun h => absurd (by decide +kernel) h, fun h => by cases h, fun _ => List.mem_of_getElem? (i := 1297) (by decide +kernel), fun _ => List.mem_of_getElem? (i := 1298) (by decide +kernel), fun h => by cases h, by decide +kernel⟩
theorem mf_Main_take : mj_facts 2362658 yX11_take cX11_take (some .int) 1 := ⟨⟨List.mem_of_getElem? (i := 118) (by decide +kernel), by decide +kernel, rfl, by decide +kernel, by decide +kernel, by decide +kernel⟩, fun _ => List.mem_of_getElem? (i := 1307) (by decide +kernel), fun h => absurd (by decide +kernel) h, fun h => by cases h, fun _ => List.mem_of_getElem? (i := 1305) (by decide +kernel), fun _ => List.mem_of_getElem? (i := 1306) (by decide +kernel), fun h => by cases h, by decide +kernel⟩
theorem mf_Main_drop : mj_facts 2492705 yX11_drop cX11_drop (none) 1 := ⟨⟨List.mem_of_getElem? (i := 118) (by decide +kernel), by decide +kernel, rfl, by decide +kernel, by decide +kernel, by decide +kernel⟩, fun _ => List.mem_of_getElem? (i := 1315) (by decide +kernel), fun h => absurd (by decide +kernel) h, fun h => by cases h, fun _ => List.mem_of_getElem? (i := 1313) (by decide +kernel), fun _ => List.mem_of_getElem? (i := 1314) (by decide +kernel), fun h => by cases h, by decide +kernel⟩
theorem mf_Main_drain : mj_facts 2625826 yX11_drain cX11_drain (some .int) 1 := ⟨⟨List.mem_of_getElem? (i := 118) (by decide +kernel), by decide +kernel, rfl, by decide +kernel, by decide +kernel, by decide +kernel⟩, fun _ => List.mem_of_getElem? (i := 1323) (by decide +kernel), fun h => absurd (by decide +kernel) h, fun h => by cases h, fun _ => List.mem_of_getElem? (i := 1321) (by decide +kernel), fun _ => List.mem_of_getElem? (i := 1322) (by decide +kernel), fun h => by cases h, by decide +kernel⟩
theorem mf_Main_hire : mj_facts 2755874 yX11_hire cX11_hire (some .int) 1 := ⟨⟨List.mem_of_getElem? (i := 118) (by decide +kernel), by decide +kernel, rfl, by decide +kernel, by decide +kernel, by decide +kernel⟩, fun _ => List.mem_of_getElem? (i := 1330) (by decide +kernel), fun h => absurd (by decide +kernel) h, fun h => by cases h, fun _ => List.mem_of_getElem? (i := 1328) (by decide +kernel), fun _ => List.mem_of_getElem? (i := 1329) (by decide +kernel), fun h => by cases h, by decide +kernel⟩
theorem mf_Main_teach : mj_facts 2885921 yX11_teach cX11_teach (some .int) 1 := ⟨⟨List.mem_of_getElem? (i := 118) (by decide +kernel), by decide +kernel, rfl, by decide +kernel, by decide +kernel, by decide +kernel⟩, fun _ => List.mem_of_getElem? (i := 1338) (by decide +kernel), fun h => absurd (by decide +kernel) h, fun h => by cases h, fun _ => List.mem_of_getElem? (i := 1336) (by decide +kernel), fun _ => List.mem_of_getElem? (i := 1337) (by decide +kernel), fun h => by cases h, by decide +kernel⟩
theorem mf_Main_make : mj_facts 3016993 yX11_make cX11_make (some .int) 1 := ⟨⟨List.mem_of_getElem? (i := 118) (by decide +kernel), by decide +kernel, rfl, by decide +kernel, by decide +kernel, by decide +kernel⟩, fun _ => List.mem_of_getElem? (i := 1345) (by decide +kernel), fun h => absurd (by decide +kernel) h, fun h => by cases h, fun _ => List.mem_of_getElem? (i := 1343) (by decide +kernel), fun _ => List.mem_of_getElem? (i := 1344) (by decide +kernel), fun h => by cases h, by decide +kernel⟩
theorem mf_Main_gain : mj_facts 3149090 yX11_gain cX11_gain (some .int) 1 := ⟨⟨List.mem_of_getElem? (i := 118) (by decide +kernel), by decide +kernel, rfl, by decide +kernel, by decide +kernel, by decide +kernel⟩, fun _ => List.mem_of_getElem? (i := 1354) (by decide +kernel), fun h => absurd (by decide +kernel) h, fun h => by cases h, fun _ => List.mem_of_getElem? (i := 1352) (by decide +kernel), fun _ => List.mem_of_getElem? (i := 1353) (by decide +kernel), fun h => by cases h, by decide +kernel⟩
theorem mf_Main_cuts : mj_facts 3280162 yX11_cuts cX11_cuts (some .int) 1 := ⟨⟨List.mem_of_getElem? (i := 118) (by decide +kernel), by decide +kernel, rfl, by decide +kernel, by decide +kernel, by decide +kernel⟩, fun _ => List.mem_of_getElem? (i := 1371) (by decide +kernel), fun h => absurd (by decide +kernel) h, fun h => by cases h, fun _ => List.mem_of_getElem? (i := 1369) (by decide +kernel), fun _ => List.mem_of_getElem? (i := 1370) (by decide +kernel), fun h => by cases h, by decide +kernel⟩
theorem mf_Main_worth : mj_facts 3409184 yX11_worth cX11_worth (some .int) 1 := ⟨⟨List.mem_of_getElem? (i := 118) (by decide +kernel), by decide +kernel, rfl, by decide +kernel, by decide +kernel, by decide +kernel⟩, fun _ => List.mem_of_getElem? (i := 530) (by decide +kernel), fun h => absurd (by decide +kernel) h, fun h => by cases h, fun _ => List.mem_of_getElem? (i := 528) (by decide +kernel), fun _ => List.mem_of_getElem? (i := 529) (by decide +kernel), fun h => by cases h, by decide +kernel⟩
theorem mf_Main_fills : mj_facts 3540256 yX11_fills cX11_fills (some .int) 1 := ⟨⟨List.mem_of_getElem? (i := 118) (by decide +kernel), by decide +kernel, rfl, by decide +kernel, by decide +kernel, by decide +kernel⟩, fun _ => List.mem_of_getElem? (i := 569) (by decide +kernel), fun h => absurd (by decide +kernel) h, fun h => by cases h, fun _ => List.mem_of_getElem? (i := 567) (by decide +kernel), fun _ => List.mem_of_getElem? (i := 568) (by decide +kernel), fun h => by cases h, by decide +kernel⟩
theorem mf_Main_pieces : mj_facts 3673377 yX11_pieces cX11_pieces (some .int) 1 := ⟨⟨List.mem_of_getElem? (i := 118) (by decide +kernel), by decide +kernel, rfl, by decide +kernel, by decide +kernel, by decide +kernel⟩, fun _ => List.mem_of_getElem? (i := 1378) (by decide +kernel), fun h => absurd (by decide +kernel) h, fun h => by cases h, fun _ => List.mem_of_getElem? (i := 1376) (by decide +kernel), fun _ => List.mem_of_getElem? (i := 1377) (by decide +kernel), fun h => by cases h, by decide +kernel⟩
theorem mf_Main_rod : mj_facts 3805474 yX11_rod cX11_rod (some .int) 1 := ⟨⟨List.mem_of_getElem? (i := 118) (by decide +kernel), by decide +kernel, rfl, by decide +kernel, by decide +kernel, by decide +kernel⟩, fun _ => List.mem_of_getElem? (i := 1414) (by decide +kernel), fun h => absurd (by decide +kernel) h, fun h => by cases h, fun _ => List.mem_of_getElem? (i := 1412) (by decide +kernel), fun _ => List.mem_of_getElem? (i := 1413) (by decide +kernel), fun h => by cases h, by decide +kernel⟩
theorem mf_Main_found : mj_facts 3934497 yX11_found cX11_found (some .int) 1 := ⟨⟨List.mem_of_getElem? (i := 118) (by decide +kernel), by decide +kernel, rfl, by decide +kernel, by decide +kernel, by decide +kernel⟩, fun _ => List.mem_of_getElem? (i := 1421) (by decide +kernel), fun h => absurd (by decide +kernel) h, fun h => by cases h, fun _ => List.mem_of_getElem? (i := 1419) (by decide +kernel), fun _ => List.mem_of_getElem? (i := 1420) (by decide +kernel), fun h => by cases h, by decide +kernel⟩
theorem mf_Main_look : mj_facts 4064544 yX11_look cX11_look (some .int) 1 := ⟨⟨List.mem_of_getElem? (i := 118) (by decide +kernel), by decide +kernel, rfl, by decide +kernel, by decide +kernel, by decide +kernel⟩, fun _ => List.mem_of_getElem? (i := 1443) (by decide +kernel), fun h => absurd (by decide +kernel) h, fun h => by cases h, fun _ => List.mem_of_getElem? (i := 1441) (by decide +kernel), fun _ => List.mem_of_getElem? (i := 1442) (by decide +kernel), fun h => by cases h, by decide +kernel⟩
theorem mf_Main_team : mj_facts 4197665 yX11_team cX11_team (some .int) 1 := ⟨⟨List.mem_of_getElem? (i := 118) (by decide +kernel), by decide +kernel, rfl, by decide +kernel, by decide +kernel, by decide +kernel⟩, fun _ => List.mem_of_getElem? (i := 1458) (by decide +kernel), fun h => absurd (by decide +kernel) h, fun h => by cases h, fun _ => List.mem_of_getElem? (i := 1456) (by decide +kernel), fun _ => List.mem_of_getElem? (i := 1457) (by decide +kernel), fun h => by cases h, by decide +kernel⟩
theorem mf_Main_pairs : mj_facts 4328737 yX11_pairs cX11_pairs (some .int) 1 := ⟨⟨List.mem_of_getElem? (i := 118) (by decide +kernel), by decide +kernel, rfl, by decide +kernel, by decide +kernel, by decide +kernel⟩, fun _ => List.mem_of_getElem? (i := 1472) (by decide +kernel), fun h => absurd (by decide +kernel) h, fun h => by cases h, fun _ => List.mem_of_getElem? (i := 1470) (by decide +kernel), fun _ => List.mem_of_getElem? (i := 1471) (by decide +kernel), fun h => by cases h, by decide +kernel⟩
theorem mf_Main_change : mj_facts 4459810 yX11_change cX11_change (some .int) 1 := ⟨⟨List.mem_of_getElem? (i := 118) (by decide +kernel), by decide +kernel, rfl, by decide +kernel, by decide +kernel, by decide +kernel⟩, fun _ => List.mem_of_getElem? (i := 1486) (by decide +kernel), fun h => absurd (by decide +kernel) h, fun h => by cases h, fun _ => List.mem_of_getElem? (i := 1484) (by decide +kernel), fun _ => List.mem_of_getElem? (i := 1485) (by decide +kernel), fun h => by cases h, by decide +kernel⟩
theorem mf_Main_share : mj_facts 4590882 yX11_share cX11_share (some .int) 1 := ⟨⟨List.mem_of_getElem? (i := 118) (by decide +kernel), by decide +kernel, rfl, by decide +kernel, by decide +kernel, by decide +kernel⟩, fun _ => List.mem_of_getElem? (i := 1494) (by decide +kernel), fun h => absurd (by decide +kernel) h, fun h => by cases h, fun _ => List.mem_of_getElem? (i := 1492) (by decide +kernel), fun _ => List.mem_of_getElem? (i := 1493) (by decide +kernel), fun h => by cases h, by decide +kernel⟩
theorem mf_Main_price : mj_facts 4720929 yX11_price cX11_price (some .int) 1 := ⟨⟨List.mem_of_getElem? (i := 118) (by decide +kernel), by decide +kernel, rfl, by decide +kernel, by decide +kernel, by decide +kernel⟩, fun _ => List.mem_of_getElem? (i := 1509) (by decide +kernel), fun h => absurd (by decide +kernel) h, fun h => by cases h, fun _ => List.mem_of_getElem? (i := 1507) (by decide +kernel), fun _ => List.mem_of_getElem? (i := 1508) (by decide +kernel), fun h => by cases h, by decide +kernel⟩
theorem mf_Main_rests : mj_facts 4855073 yX11_rests cX11_rests (some .int) 1 := ⟨⟨List.mem_of_getElem? (i := 118) (by decide +kernel), by decide +kernel, rfl, by decide +kernel, by decide +kernel, by decide +kernel⟩, fun _ => List.mem_of_getElem? (i := 1524) (by decide +kernel), fun h => absurd (by decide +kernel) h, fun h => by cases h, fun _ => List.mem_of_getElem? (i := 1522) (by decide +kernel), fun _ => List.mem_of_getElem? (i := 1523) (by decide +kernel), fun h => by cases h, by decide +kernel⟩
theorem mf_Main_odds : mj_facts 4989218 yX11_odds cX11_odds (some .int) 1 := ⟨⟨List.mem_of_getElem? (i := 118) (by decide +kernel), by decide +kernel, rfl, by decide +kernel, by decide +kernel, by decide +kernel⟩, fun _ => List.mem_of_getElem? (i := 1534) (by decide +kernel), fun h => absurd (by decide +kernel) h, fun h => by cases h, fun _ => List.mem_of_getElem? (i := 1532) (by decide +kernel), fun _ => List.mem_of_getElem? (i := 1533) (by decide +kernel), fun h => by cases h, by decide +kernel⟩
theorem mf_Main_most : mj_facts 5114145 yX11_most cX11_most (some .int) 1 := ⟨⟨List.mem_of_getElem? (i := 118) (by decide +kernel), by decide +kernel, rfl, by decide +kernel, by decide +kernel, by decide +kernel⟩, fun _ => List.mem_of_getElem? (i := 1548) (by decide +kernel), fun h => absurd (by decide +kernel) h, fun h => by cases h, fun _ => List.mem_of_getElem? (i := 1546) (by decide +kernel), fun _ => List.mem_of_getElem? (i := 1547) (by decide +kernel), fun h => by cases h, by decide +kernel⟩
theorem mf_Main_open : mj_facts 5245217 yX11_open cX11_open (some .int) 1 := ⟨⟨List.mem_of_getElem? (i := 118) (by decide +kernel), by decide +kernel, rfl, by decide +kernel, by decide +kernel, by decide +kernel⟩, fun _ => List.mem_of_getElem? (i := 573) (by decide +kernel), fun h => absurd (by decide +kernel) h, fun h => by cases h, fun _ => List.mem_of_getElem? (i := 571) (by decide +kernel), fun _ => List.mem_of_getElem? (i := 572) (by decide +kernel), fun h => by cases h, by decide +kernel⟩
theorem mf_Main_twins : mj_facts 5375264 yX11_twins cX11_twins (some .int) 1 := ⟨⟨List.mem_of_getElem? (i := 118) (by decide +kernel), by decide +kernel, rfl, by decide +kernel, by decide +kernel, by decide +kernel⟩, fun _ => List.mem_of_getElem? (i := 589) (by decide +kernel), fun h => absurd (by decide +kernel) h, fun h => by cases h, fun _ => List.mem_of_getElem? (i := 587) (by decide +kernel), fun _ => List.mem_of_getElem? (i := 588) (by decide +kernel), fun h => by cases h, by decide +kernel⟩
theorem mf_Main_sort : mj_facts 5507361 yX11_sort cX11_sort (some .int) 1 := ⟨⟨List.mem_of_getElem? (i := 118) (by decide +kernel), by decide +kernel, rfl, by decide +kernel, by decide +kernel, by decide +kernel⟩, fun _ => List.mem_of_getElem? (i := 1558) (by decide +kernel), fun h => absurd (by decide +kernel) h, fun h => by cases h, fun _ => List.mem_of_getElem? (i := 1556) (by decide +kernel), fun _ => List.mem_of_getElem? (i := 1557) (by decide +kernel), fun h => by cases h, by decide +kernel⟩
theorem mf_Main_lengths : mj_facts 5639456 yX11_lengths cX11_lengths (some .int) 1 := ⟨⟨List.mem_of_getElem? (i := 118) (by decide +kernel), by decide +kernel, rfl, by decide +kernel, by decide +kernel, by decide +kernel⟩, fun _ => List.mem_of_getElem? (i := 597) (by decide +kernel), fun h => absurd (by decide +kernel) h, fun h => by cases h, fun _ => List.mem_of_getElem? (i := 595) (by decide +kernel), fun _ => List.mem_of_getElem? (i := 596) (by decide +kernel), fun h => by cases h, by decide +kernel⟩
theorem mf_Main_ahead : mj_facts 5771555 yX11_ahead cX11_ahead (some .int) 1 := ⟨⟨List.mem_of_getElem? (i := 118) (by decide +kernel), by decide +kernel, rfl, by decide +kernel, by decide +kernel, by decide +kernel⟩, fun _ => List.mem_of_getElem? (i := 1569) (by decide +kernel), fun h => absurd (by decide +kernel) h, fun h => by cases h, fun _ => List.mem_of_getElem? (i := 1567) (by decide +kernel), fun _ => List.mem_of_getElem? (i := 1568) (by decide +kernel), fun h => by cases h, by decide +kernel⟩
theorem mf_Main_trial : mj_facts 5901602 yX11_trial cX11_trial (some .int) 1 := ⟨⟨List.mem_of_getElem? (i := 118) (by decide +kernel), by decide +kernel, rfl, by decide +kernel, by decide +kernel, by decide +kernel⟩, fun _ => List.mem_of_getElem? (i := 1580) (by decide +kernel), fun h => absurd (by decide +kernel) h, fun h => by cases h, fun _ => List.mem_of_getElem? (i := 1578) (by decide +kernel), fun _ => List.mem_of_getElem? (i := 1579) (by decide +kernel), fun h => by cases h, by decide +kernel⟩
theorem mf_Main_span : mj_facts 6034722 yX11_span cX11_span (some .int) 1 := ⟨⟨List.mem_of_getElem? (i := 118) (by decide +kernel), by decide +kernel, rfl, by decide +kernel, by decide +kernel, by decide +kernel⟩, fun _ => List.mem_of_getElem? (i := 1587) (by decide +kernel), fun h => absurd (by decide +kernel) h, fun h => by cases h, fun _ => List.mem_of_getElem? (i := 1585) (by decide +kernel), fun _ => List.mem_of_getElem? (i := 1586) (by decide +kernel), fun h => by cases h, by decide +kernel⟩
theorem mf_Main_led : mj_facts 6163746 yX11_led cX11_led (some .int) 1 := ⟨⟨List.mem_of_getElem? (i := 118) (by decide +kernel), by decide +kernel, rfl, by decide +kernel, by decide +kernel, by decide +kernel⟩, fun _ => List.mem_of_getElem? (i := 1594) (by decide +kernel), fun h => absurd (by decide +kernel) h, fun h => by cases h, fun _ => List.mem_of_getElem? (i := 1592) (by decide +kernel), fun _ => List.mem_of_getElem? (i := 1593) (by decide +kernel), fun h => by cases h, by decide +kernel⟩
theorem mf_Main_log : mj_facts 6294818 yX11_log cX11_log (some .int) 1 := ⟨⟨List.mem_of_getElem? (i := 118) (by decide +kernel), by decide +kernel, rfl, by decide +kernel, by decide +kernel, by decide +kernel⟩, fun _ => List.mem_of_getElem? (i := 1617) (by decide +kernel), fun h => absurd (by decide +kernel) h, fun h => by cases h, fun _ => List.mem_of_getElem? (i := 1615) (by decide +kernel), fun _ => List.mem_of_getElem? (i := 1616) (by decide +kernel), fun h => by cases h, by decide +kernel⟩
theorem mf_Main_seed : mj_facts 6425889 yX11_seed cX11_seed (some .int) 1 := ⟨⟨List.mem_of_getElem? (i := 118) (by decide +kernel), by decide +kernel, rfl, by decide +kernel, by decide +kernel, by decide +kernel⟩, fun _ => List.mem_of_getElem? (i := 601) (by decide +kernel), fun h => absurd (by decide +kernel) h, fun h => by cases h, fun _ => List.mem_of_getElem? (i := 599) (by decide +kernel), fun _ => List.mem_of_getElem? (i := 600) (by decide +kernel), fun h => by cases h, by decide +kernel⟩
theorem mf_Main_undo : mj_facts 6621472 yX11_undo cX11_undo (some .boolean) 1 := ⟨⟨List.mem_of_getElem? (i := 118) (by decide +kernel), by decide +kernel, rfl, by decide +kernel, by decide +kernel, by decide +kernel⟩, fun _ => List.mem_of_getElem? (i := 605) (by decide +kernel), fun h => absurd (by decide +kernel) h, fun h => by cases h, fun _ => List.mem_of_getElem? (i := 603) (by decide +kernel), fun _ => List.mem_of_getElem? (i := 604) (by decide +kernel), fun h => by cases h, by decide +kernel⟩
theorem mf_Main_image : mj_facts 6685984 yX11_image cX11_image (none) 1 := ⟨⟨List.mem_of_getElem? (i := 118) (by decide +kernel), by decide +kernel, rfl, by decide +kernel, by decide +kernel, by decide +kernel⟩, fun _ => List.mem_of_getElem? (i := 641) (by decide +kernel), fun h => absurd (by decide +kernel) h, fun h => by cases h, fun _ => List.mem_of_getElem? (i := 639) (by decide +kernel), fun _ => List.mem_of_getElem? (i := 640) (by decide +kernel), fun h => by cases h, by decide +kernel⟩
theorem mf_Main_back : mj_facts 6882592 yX11_back cX11_back (some .boolean) 1 := ⟨⟨List.mem_of_getElem? (i := 118) (by decide +kernel), by decide +kernel, rfl, by decide +kernel, by decide +kernel, by decide +kernel⟩, fun _ => List.mem_of_getElem? (i := 650) (by decide +kernel), fun h => absurd (by decide +kernel) h, fun h => by cases h, fun _ => List.mem_of_getElem? (i := 648) (by decide +kernel), fun _ => List.mem_of_getElem? (i := 649) (by decide +kernel), fun h => by cases h, by decide +kernel⟩
theorem mf_Main_count : mj_facts 6949153 yX11_count cX11_count (some .int) 1 := ⟨⟨List.mem_of_getElem? (i := 118) (by decide +kernel), by decide +kernel, rfl, by decide +kernel, by decide +kernel, by decide +kernel⟩, fun _ => List.mem_of_getElem? (i := 654) (by decide +kernel), fun h => absurd (by decide +kernel) h, fun h => by cases h, fun _ => List.mem_of_getElem? (i := 652) (by decide +kernel), fun _ => List.mem_of_getElem? (i := 653) (by decide +kernel), fun h => by cases h, by decide +kernel⟩
theorem mf_Main_needBed : mj_facts 7080225 yX11_needBed cX11_needBed (none) 1 := ⟨⟨List.mem_of_getElem? (i := 118) (by decide +kernel), by decide +kernel, rfl, by decide +kernel, by decide +kernel, by decide +kernel⟩, fun _ => List.mem_of_getElem? (i := 996) (by decide +kernel), fun h => absurd (by decide +kernel) h, fun h => by cases h, fun _ => List.mem_of_getElem? (i := 995) (by decide +kernel), fun _ => List.mem_of_getElem? (i := 4) (by decide +kernel), fun h => by cases h, by decide +kernel⟩
theorem mf_Main_needBasket : mj_facts 7211297 yX11_needBasket cX11_needBasket (none) 1 := ⟨⟨List.mem_of_getElem? (i := 118) (by decide +kernel), by decide +kernel, rfl, by decide +kernel, by decide +kernel, by decide +kernel⟩, fun _ => List.mem_of_getElem? (i := 1083) (by decide +kernel), fun h => absurd (by decide +kernel) h, fun h => by cases h, fun _ => List.mem_of_getElem? (i := 1082) (by decide +kernel), fun _ => List.mem_of_getElem? (i := 8) (by decide +kernel), fun h => by cases h, by decide +kernel⟩
theorem mf_Main_needHand : mj_facts 7342369 yX11_needHand cX11_needHand (none) 1 := ⟨⟨List.mem_of_getElem? (i := 118) (by decide +kernel), by decide +kernel, rfl, by decide +kernel, by decide +kernel, by decide +kernel⟩, fun _ => List.mem_of_getElem? (i := 1184) (by decide +kernel), fun h => absurd (by decide +kernel) h, fun h => by cases h, fun _ => List.mem_of_getElem? (i := 1183) (by decide +kernel), fun _ => List.mem_of_getElem? (i := 12) (by decide +kernel), fun h => by cases h, by decide +kernel⟩
theorem mf_Main_needOrder : mj_facts 7473441 yX11_needOrder cX11_needOrder (none) 1 := ⟨⟨List.mem_of_getElem? (i := 118) (by decide +kernel), by decide +kernel, rfl, by decide +kernel, by decide +kernel, by decide +kernel⟩, fun _ => List.mem_of_getElem? (i := 1195) (by decide +kernel), fun h => absurd (by decide +kernel) h, fun h => by cases h, fun _ => List.mem_of_getElem? (i := 1194) (by decide +kernel), fun _ => List.mem_of_getElem? (i := 13) (by decide +kernel), fun h => by cases h, by decide +kernel⟩
theorem mf_Main_needFeet : mj_facts 7603489 yX11_needFeet cX11_needFeet (none) 0 := ⟨⟨List.mem_of_getElem? (i := 118) (by decide +kernel), by decide +kernel, rfl, by decide +kernel, by decide +kernel, by decide +kernel⟩, fun _ => List.mem_of_getElem? (i := 1173) (by decide +kernel), fun h => absurd (by decide +kernel) h, fun _ => List.mem_of_getElem? (i := 1172) (by decide +kernel), fun h => absurd rfl h, fun h => by cases h, fun h => by cases h, by decide +kernel⟩
theorem mf_Main_needIndex : mj_facts 7736611 yX11_needIndex cX11_needIndex (none) 0 := ⟨⟨List.mem_of_getElem? (i := 118) (by decide +kernel), by decide +kernel, rfl, by decide +kernel, by decide +kernel, by decide +kernel⟩, fun _ => List.mem_of_getElem? (i := 999) (by decide +kernel), fun h => absurd (by decide +kernel) h, fun _ => List.mem_of_getElem? (i := 998) (by decide +kernel), fun h => absurd rfl h, fun h => by cases h, fun h => by cases h, by decide +kernel⟩
theorem mf_Main_needWithin : mj_facts 7867683 yX11_needWithin cX11_needWithin (none) 0 := ⟨⟨List.mem_of_getElem? (i := 118) (by decide +kernel), by decide +kernel, rfl, by decide +kernel, by decide +kernel, by decide +kernel⟩, fun _ => List.mem_of_getElem? (i := 1207) (by decide +kernel), fun h => absurd (by decide +kernel) h, fun _ => List.mem_of_getElem? (i := 1206) (by decide +kernel), fun h => absurd rfl h, fun h => by cases h, fun h => by cases h, by decide +kernel⟩
theorem mf_Main_needTape : mj_facts 7996705 yX11_needTape cX11_needTape (none) 0 := ⟨⟨List.mem_of_getElem? (i := 118) (by decide +kernel), by decide +kernel, rfl, by decide +kernel, by decide +kernel, by decide +kernel⟩, fun _ => List.mem_of_getElem? (i := 1390) (by decide +kernel), fun h => absurd (by decide +kernel) h, fun _ => List.mem_of_getElem? (i := 1389) (by decide +kernel), fun h => absurd rfl h, fun h => by cases h, fun h => by cases h, by decide +kernel⟩
theorem mf_Main_needPossible : mj_facts 8127777 yX11_needPossible cX11_needPossible (none) 0 := ⟨⟨List.mem_of_getElem? (i := 118) (by decide +kernel), by decide +kernel, rfl, by decide +kernel, by decide +kernel, by decide +kernel⟩, fun _ => List.mem_of_getElem? (i := 1267) (by decide +kernel), fun h => absurd (by decide +kernel) h, fun _ => List.mem_of_getElem? (i := 1266) (by decide +kernel), fun h => absurd rfl h, fun h => by cases h, fun h => by cases h, by decide +kernel⟩
theorem mf_Main_remember : mj_facts 8259872 yX11_remember cX11_remember (none) 1 := ⟨⟨List.mem_of_getElem? (i := 118) (by decide +kernel), by decide +kernel, rfl, by decide +kernel, by decide +kernel, by decide +kernel⟩, fun _ => List.mem_of_getElem? (i := 1212) (by decide +kernel), fun h => absurd (by decide +kernel) h, fun h => by cases h, fun _ => List.mem_of_getElem? (i := 1211) (by decide +kernel), fun _ => List.mem_of_getElem? (i := 14) (by decide +kernel), fun h => by cases h, by decide +kernel⟩
theorem mf_Main_restBit : mj_facts 8394021 yX11_restBit cX11_restBit (some .int) 0 := ⟨⟨List.mem_of_getElem? (i := 118) (by decide +kernel), by decide +kernel, rfl, by decide +kernel, by decide +kernel, by decide +kernel⟩, fun _ => List.mem_of_getElem? (i := 1527) (by decide +kernel), fun h => absurd (by decide +kernel) h, fun _ => List.mem_of_getElem? (i := 1526) (by decide +kernel), fun h => absurd rfl h, fun h => by cases h, fun h => by cases h, by decide +kernel⟩
theorem mf_Main_chanceOf : mj_facts 8526114 yX11_chanceOf cX11_chanceOf (some .long) 1 := ⟨⟨List.mem_of_getElem? (i := 118) (by decide +kernel), by decide +kernel, rfl, by decide +kernel, by decide +kernel, by decide +kernel⟩, fun _ => List.mem_of_getElem? (i := 1539) (by decide +kernel), fun h => absurd (by decide +kernel) h, fun h => by cases h, fun _ => List.mem_of_getElem? (i := 1538) (by decide +kernel), fun _ => List.mem_of_getElem? (i := 26) (by decide +kernel), fun h => by cases h, by decide +kernel⟩
theorem mf_Main_firstGreatest : mj_facts 8655138 yX11_firstGreatest cX11_firstGreatest (some .int) 0 := ⟨⟨List.mem_of_getElem? (i := 118) (by decide +kernel), by decide +kernel, rfl, by decide +kernel, by decide +kernel, by decide +kernel⟩, fun _ => List.mem_of_getElem? (i := 1551) (by decide +kernel), fun h => absurd (by decide +kernel) h, fun _ => List.mem_of_getElem? (i := 1550) (by decide +kernel), fun h => absurd rfl h, fun h => by cases h, fun h => by cases h, by decide +kernel⟩
theorem mf_Mod_init : mj_facts 8783168 yX12_init cX12_init (none) 2 := ⟨⟨List.mem_of_getElem? (i := 128) (by decide +kernel), by decide +kernel, rfl, by decide +kernel, by decide +kernel, by decide +kernel⟩, fun _ => List.mem_of_getElem? (i := 1623) (by decide +kernel), fun h => absurd (by decide +kernel) h, fun h => by cases h, fun _ => List.mem_of_getElem? (i := 1622) (by decide +kernel), fun h => by cases h, fun _ => ⟨rfl, rfl⟩, by decide +kernel⟩
theorem mf_Mod_thrown : mj_facts 8914240 yX12_thrown cX12_thrown (some .int) 1 := ⟨⟨List.mem_of_getElem? (i := 128) (by decide +kernel), by decide +kernel, rfl, by decide +kernel, by decide +kernel, by decide +kernel⟩, fun _ => List.mem_of_getElem? (i := 1705) (by decide +kernel), fun h => absurd (by decide +kernel) h, fun h => by cases h, fun _ => List.mem_of_getElem? (i := 1703) (by decide +kernel), fun _ => List.mem_of_getElem? (i := 1704) (by decide +kernel), fun h => by cases h, by decide +kernel⟩
theorem mf_Mod_isIn : mj_facts 9112899 yX12_isIn cX12_isIn (some .boolean) 0 := ⟨⟨List.mem_of_getElem? (i := 128) (by decide +kernel), by decide +kernel, rfl, by decide +kernel, by decide +kernel, by decide +kernel⟩, fun _ => List.mem_of_getElem? (i := 1716) (by decide +kernel), fun h => absurd (by decide +kernel) h, fun _ => List.mem_of_getElem? (i := 1715) (by decide +kernel), fun h => absurd rfl h, fun h => by cases h, fun h => by cases h, by decide +kernel⟩
theorem mf_Mod_lesser : mj_facts 9177410 yX12_lesser cX12_lesser (some .int) 0 := ⟨⟨List.mem_of_getElem? (i := 128) (by decide +kernel), by decide +kernel, rfl, by decide +kernel, by decide +kernel, by decide +kernel⟩, fun _ => List.mem_of_getElem? (i := 1909) (by decide +kernel), fun h => absurd (by decide +kernel) h, fun _ => List.mem_of_getElem? (i := 1908) (by decide +kernel), fun h => absurd rfl h, fun h => by cases h, fun h => by cases h, by decide +kernel⟩
theorem mf_Mod_greater : mj_facts 9308482 yX12_greater cX12_greater (some .int) 0 := ⟨⟨List.mem_of_getElem? (i := 128) (by decide +kernel), by decide +kernel, rfl, by decide +kernel, by decide +kernel, by decide +kernel⟩, fun _ => List.mem_of_getElem? (i := 1912) (by decide +kernel), fun h => absurd (by decide +kernel) h, fun _ => List.mem_of_getElem? (i := 1911) (by decide +kernel), fun h => absurd rfl h, fun h => by cases h, fun h => by cases h, by decide +kernel⟩
theorem mf_Mod_isOf : mj_facts 9505090 yX12_isOf cX12_isOf (some .boolean) 0 := ⟨⟨List.mem_of_getElem? (i := 128) (by decide +kernel), by decide +kernel, rfl, by decide +kernel, by decide +kernel, by decide +kernel⟩, fun _ => List.mem_of_getElem? (i := 2141) (by decide +kernel), fun h => absurd (by decide +kernel) h, fun _ => List.mem_of_getElem? (i := 2140) (by decide +kernel), fun h => absurd rfl h, fun h => by cases h, fun h => by cases h, by decide +kernel⟩
theorem mf_Mod_bits : mj_facts 9571649 yX12_bits cX12_bits (some .int) 0 := ⟨⟨List.mem_of_getElem? (i := 128) (by decide +kernel), by decide +kernel, rfl, by decide +kernel, by decide +kernel, by decide +kernel⟩, fun _ => List.mem_of_getElem? (i := 2144) (by decide +kernel), fun h => absurd (by decide +kernel) h, fun _ => List.mem_of_getElem? (i := 2143) (by decide +kernel), fun h => absurd rfl h, fun h => by cases h, fun h => by cases h, by decide +kernel⟩
theorem mf_Mod_ofBed : mj_facts 9702722 yX12_ofBed cX12_ofBed (some .int) 1 := ⟨⟨List.mem_of_getElem? (i := 128) (by decide +kernel), by decide +kernel, rfl, by decide +kernel, by decide +kernel, by decide +kernel⟩, fun _ => List.mem_of_getElem? (i := 1898) (by decide +kernel), fun h => absurd (by decide +kernel) h, fun h => by cases h, fun _ => List.mem_of_getElem? (i := 1897) (by decide +kernel), fun _ => List.mem_of_getElem? (i := 60) (by decide +kernel), fun h => by cases h, by decide +kernel⟩
theorem mf_Mod_ofBasket : mj_facts 9833794 yX12_ofBasket cX12_ofBasket (some .int) 1 := ⟨⟨List.mem_of_getElem? (i := 128) (by decide +kernel), by decide +kernel, rfl, by decide +kernel, by decide +kernel, by decide +kernel⟩, fun _ => List.mem_of_getElem? (i := 1932) (by decide +kernel), fun h => absurd (by decide +kernel) h, fun h => by cases h, fun _ => List.mem_of_getElem? (i := 1931) (by decide +kernel), fun _ => List.mem_of_getElem? (i := 66) (by decide +kernel), fun h => by cases h, by decide +kernel⟩
theorem mf_Mod_skill : mj_facts 9963841 yX12_skill cX12_skill (some .int) 1 := ⟨⟨List.mem_of_getElem? (i := 128) (by decide +kernel), by decide +kernel, rfl, by decide +kernel, by decide +kernel, by decide +kernel⟩, fun _ => List.mem_of_getElem? (i := 2025) (by decide +kernel), fun h => absurd (by decide +kernel) h, fun h => by cases h, fun _ => List.mem_of_getElem? (i := 2024) (by decide +kernel), fun _ => List.mem_of_getElem? (i := 84) (by decide +kernel), fun h => by cases h, by decide +kernel⟩
theorem mf_Mod_wage : mj_facts 10094913 yX12_wage cX12_wage (some .int) 1 := ⟨⟨List.mem_of_getElem? (i := 128) (by decide +kernel), by decide +kernel, rfl, by decide +kernel, by decide +kernel, by decide +kernel⟩, fun _ => List.mem_of_getElem? (i := 2021) (by decide +kernel), fun h => absurd (by decide +kernel) h, fun h => by cases h, fun _ => List.mem_of_getElem? (i := 2020) (by decide +kernel), fun _ => List.mem_of_getElem? (i := 83) (by decide +kernel), fun h => by cases h, by decide +kernel⟩
theorem mf_Mod_ofOrder : mj_facts 10227010 yX12_ofOrder cX12_ofOrder (some .int) 1 := ⟨⟨List.mem_of_getElem? (i := 128) (by decide +kernel), by decide +kernel, rfl, by decide +kernel, by decide +kernel, by decide +kernel⟩, fun _ => List.mem_of_getElem? (i := 2037) (by decide +kernel), fun h => absurd (by decide +kernel) h, fun h => by cases h, fun _ => List.mem_of_getElem? (i := 2036) (by decide +kernel), fun _ => List.mem_of_getElem? (i := 86) (by decide +kernel), fun h => by cases h, by decide +kernel⟩
theorem mf_Mod_stored : mj_facts 10357057 yX12_stored cX12_stored (some .int) 1 := ⟨⟨List.mem_of_getElem? (i := 128) (by decide +kernel), by decide +kernel, rfl, by decide +kernel, by decide +kernel, by decide +kernel⟩, fun _ => List.mem_of_getElem? (i := 2009) (by decide +kernel), fun h => absurd (by decide +kernel) h, fun h => by cases h, fun _ => List.mem_of_getElem? (i := 2008) (by decide +kernel), fun _ => List.mem_of_getElem? (i := 81) (by decide +kernel), fun h => by cases h, by decide +kernel⟩
theorem mf_Mod_isBed : mj_facts 10553665 yX12_isBed cX12_isBed (some .boolean) 1 := ⟨⟨List.mem_of_getElem? (i := 128) (by decide +kernel), by decide +kernel, rfl, by decide +kernel, by decide +kernel, by decide +kernel⟩, fun _ => List.mem_of_getElem? (i := 1894) (by decide +kernel), fun h => absurd (by decide +kernel) h, fun h => by cases h, fun _ => List.mem_of_getElem? (i := 1893) (by decide +kernel), fun _ => List.mem_of_getElem? (i := 59) (by decide +kernel), fun h => by cases h, by decide +kernel⟩
theorem mf_Mod_isBasket : mj_facts 10684737 yX12_isBasket cX12_isBasket (some .boolean) 1 := ⟨⟨List.mem_of_getElem? (i := 128) (by decide +kernel), by decide +kernel, rfl, by decide +kernel, by decide +kernel, by decide +kernel⟩, fun _ => List.mem_of_getElem? (i := 1928) (by decide +kernel), fun h => absurd (by decide +kernel) h, fun h => by cases h, fun _ => List.mem_of_getElem? (i := 1927) (by decide +kernel), fun _ => List.mem_of_getElem? (i := 65) (by decide +kernel), fun h => by cases h, by decide +kernel⟩
theorem mf_Mod_isHand : mj_facts 10815809 yX12_isHand cX12_isHand (some .boolean) 1 := ⟨⟨List.mem_of_getElem? (i := 128) (by decide +kernel), by decide +kernel, rfl, by decide +kernel, by decide +kernel, by decide +kernel⟩, fun _ => List.mem_of_getElem? (i := 2017) (by decide +kernel), fun h => absurd (by decide +kernel) h, fun h => by cases h, fun _ => List.mem_of_getElem? (i := 2016) (by decide +kernel), fun _ => List.mem_of_getElem? (i := 82) (by decide +kernel), fun h => by cases h, by decide +kernel⟩
theorem mf_Mod_isOrder : mj_facts 10946881 yX12_isOrder cX12_isOrder (some .boolean) 1 := ⟨⟨List.mem_of_getElem? (i := 128) (by decide +kernel), by decide +kernel, rfl, by decide +kernel, by decide +kernel, by decide +kernel⟩, fun _ => List.mem_of_getElem? (i := 2033) (by decide +kernel), fun h => absurd (by decide +kernel) h, fun h => by cases h, fun _ => List.mem_of_getElem? (i := 2032) (by decide +kernel), fun _ => List.mem_of_getElem? (i := 85) (by decide +kernel), fun h => by cases h, by decide +kernel⟩
theorem mf_Mod_feed : mj_facts 11018565 yX12_feed cX12_feed (some .int) 1 := ⟨⟨List.mem_of_getElem? (i := 128) (by decide +kernel), by decide +kernel, rfl, by decide +kernel, by decide +kernel, by decide +kernel⟩, fun _ => List.mem_of_getElem? (i := 1709) (by decide +kernel), fun h => absurd (by decide +kernel) h, fun h => by cases h, fun _ => List.mem_of_getElem? (i := 1707) (by decide +kernel), fun _ => List.mem_of_getElem? (i := 1708) (by decide +kernel), fun h => by cases h, by decide +kernel⟩
theorem mf_Mod_end : mj_facts 11209025 yX12_end cX12_end (some .boolean) 1 := ⟨⟨List.mem_of_getElem? (i := 128) (by decide +kernel), by decide +kernel, rfl, by decide +kernel, by decide +kernel, by decide +kernel⟩, fun _ => List.mem_of_getElem? (i := 1713) (by decide +kernel), fun h => absurd (by decide +kernel) h, fun h => by cases h, fun _ => List.mem_of_getElem? (i := 1711) (by decide +kernel), fun _ => List.mem_of_getElem? (i := 1712) (by decide +kernel), fun h => by cases h, by decide +kernel⟩
theorem mf_Mod_letter : mj_facts 11274561 yX12_letter cX12_letter (some .int) 1 := ⟨⟨List.mem_of_getElem? (i := 128) (by decide +kernel), by decide +kernel, rfl, by decide +kernel, by decide +kernel, by decide +kernel⟩, fun _ => List.mem_of_getElem? (i := 1740) (by decide +kernel), fun h => absurd (by decide +kernel) h, fun h => by cases h, fun _ => List.mem_of_getElem? (i := 1739) (by decide +kernel), fun _ => List.mem_of_getElem? (i := 32) (by decide +kernel), fun h => by cases h, by decide +kernel⟩
theorem mf_Mod_skip : mj_facts 11404608 yX12_skip cX12_skip (none) 1 := ⟨⟨List.mem_of_getElem? (i := 128) (by decide +kernel), by decide +kernel, rfl, by decide +kernel, by decide +kernel, by decide +kernel⟩, fun _ => List.mem_of_getElem? (i := 1736) (by decide +kernel), fun h => absurd (by decide +kernel) h, fun h => by cases h, fun _ => List.mem_of_getElem? (i := 1735) (by decide +kernel), fun _ => List.mem_of_getElem? (i := 31) (by decide +kernel), fun h => by cases h, by decide +kernel⟩
theorem mf_Mod_isSign : mj_facts 11602241 yX12_isSign cX12_isSign (some .boolean) 1 := ⟨⟨List.mem_of_getElem? (i := 128) (by decide +kernel), by decide +kernel, rfl, by decide +kernel, by decide +kernel, by decide +kernel⟩, fun _ => List.mem_of_getElem? (i := 1783) (by decide +kernel), fun h => absurd (by decide +kernel) h, fun h => by cases h, fun _ => List.mem_of_getElem? (i := 1782) (by decide +kernel), fun _ => List.mem_of_getElem? (i := 41) (by decide +kernel), fun h => by cases h, by decide +kernel⟩
theorem mf_Mod_has : mj_facts 11735361 yX12_has cX12_has (some .boolean) 1 := ⟨⟨List.mem_of_getElem? (i := 128) (by decide +kernel), by decide +kernel, rfl, by decide +kernel, by decide +kernel, by decide +kernel⟩, fun _ => List.mem_of_getElem? (i := 1753) (by decide +kernel), fun h => absurd (by decide +kernel) h, fun h => by cases h, fun _ => List.mem_of_getElem? (i := 1752) (by decide +kernel), fun _ => List.mem_of_getElem? (i := 35) (by decide +kernel), fun h => by cases h, by decide +kernel⟩
theorem mf_Mod_wrong : mj_facts 11798849 yX12_wrong cX12_wrong (none) 1 := ⟨⟨List.mem_of_getElem? (i := 128) (by decide +kernel), by decide +kernel, rfl, by decide +kernel, by decide +kernel, by decide +kernel⟩, fun _ => List.mem_of_getElem? (i := 1744) (by decide +kernel), fun h => absurd (by decide +kernel) h, fun h => by cases h, fun _ => List.mem_of_getElem? (i := 1743) (by decide +kernel), fun _ => List.mem_of_getElem? (i := 33) (by decide +kernel), fun h => by cases h, by decide +kernel⟩
theorem mf_Mod_here : mj_facts 11928896 yX12_here cX12_here (some .int) 1 := ⟨⟨List.mem_of_getElem? (i := 128) (by decide +kernel), by decide +kernel, rfl, by decide +kernel, by decide +kernel, by decide +kernel⟩, fun _ => List.mem_of_getElem? (i := 1765) (by decide +kernel), fun h => absurd (by decide +kernel) h, fun h => by cases h, fun _ => List.mem_of_getElem? (i := 1764) (by decide +kernel), fun _ => List.mem_of_getElem? (i := 37) (by decide +kernel), fun h => by cases h, by decide +kernel⟩
theorem mf_Mod_figures : mj_facts 12064066 yX12_figures cX12_figures (some .int) 1 := ⟨⟨List.mem_of_getElem? (i := 128) (by decide +kernel), by decide +kernel, rfl, by decide +kernel, by decide +kernel, by decide +kernel⟩, fun _ => List.mem_of_getElem? (i := 1761) (by decide +kernel), fun h => absurd (by decide +kernel) h, fun h => by cases h, fun _ => List.mem_of_getElem? (i := 1760) (by decide +kernel), fun _ => List.mem_of_getElem? (i := 36) (by decide +kernel), fun h => by cases h, by decide +kernel⟩
theorem mf_Mod_after : mj_facts 12194115 yX12_after cX12_after (some .int) 1 := ⟨⟨List.mem_of_getElem? (i := 128) (by decide +kernel), by decide +kernel, rfl, by decide +kernel, by decide +kernel, by decide +kernel⟩, fun _ => List.mem_of_getElem? (i := 1826) (by decide +kernel), fun h => absurd (by decide +kernel) h, fun h => by cases h, fun _ => List.mem_of_getElem? (i := 1825) (by decide +kernel), fun _ => List.mem_of_getElem? (i := 48) (by decide +kernel), fun h => by cases h, by decide +kernel⟩
theorem mf_Mod_expects : mj_facts 12389697 yX12_expects cX12_expects (some .boolean) 1 := ⟨⟨List.mem_of_getElem? (i := 128) (by decide +kernel), by decide +kernel, rfl, by decide +kernel, by decide +kernel, by decide +kernel⟩, fun _ => List.mem_of_getElem? (i := 1838) (by decide +kernel), fun h => absurd (by decide +kernel) h, fun h => by cases h, fun _ => List.mem_of_getElem? (i := 1837) (by decide +kernel), fun _ => List.mem_of_getElem? (i := 50) (by decide +kernel), fun h => by cases h, by decide +kernel⟩
theorem mf_Mod_sortWord : mj_facts 12455232 yX12_sortWord cX12_sortWord (some .int) 1 := ⟨⟨List.mem_of_getElem? (i := 128) (by decide +kernel), by decide +kernel, rfl, by decide +kernel, by decide +kernel, by decide +kernel⟩, fun _ => List.mem_of_getElem? (i := 1819) (by decide +kernel), fun h => absurd (by decide +kernel) h, fun h => by cases h, fun _ => List.mem_of_getElem? (i := 1818) (by decide +kernel), fun _ => List.mem_of_getElem? (i := 47) (by decide +kernel), fun h => by cases h, by decide +kernel⟩
theorem mf_Mod_bedLine : mj_facts 12590401 yX12_bedLine cX12_bedLine (none) 1 := ⟨⟨List.mem_of_getElem? (i := 128) (by decide +kernel), by decide +kernel, rfl, by decide +kernel, by decide +kernel, by decide +kernel⟩, fun _ => List.mem_of_getElem? (i := 1815) (by decide +kernel), fun h => absurd (by decide +kernel) h, fun h => by cases h, fun _ => List.mem_of_getElem? (i := 1814) (by decide +kernel), fun _ => List.mem_of_getElem? (i := 46) (by decide +kernel), fun h => by cases h, by decide +kernel⟩
theorem mf_Mod_isFigure : mj_facts 12780864 yX12_isFigure cX12_isFigure (some .boolean) 1 := ⟨⟨List.mem_of_getElem? (i := 128) (by decide +kernel), by decide +kernel, rfl, by decide +kernel, by decide +kernel, by decide +kernel⟩, fun _ => List.mem_of_getElem? (i := 1842) (by decide +kernel), fun h => absurd (by decide +kernel) h, fun h => by cases h, fun _ => List.mem_of_getElem? (i := 1841) (by decide +kernel), fun _ => List.mem_of_getElem? (i := 51) (by decide +kernel), fun h => by cases h, by decide +kernel⟩
theorem mf_Mod_basketLine : mj_facts 12854593 yX12_basketLine cX12_basketLine (none) 1 := ⟨⟨List.mem_of_getElem? (i := 128) (by decide +kernel), by decide +kernel, rfl, by decide +kernel, by decide +kernel, by decide +kernel⟩, fun _ => List.mem_of_getElem? (i := 1831) (by decide +kernel), fun h => absurd (by decide +kernel) h, fun h => by cases h, fun _ => List.mem_of_getElem? (i := 1830) (by decide +kernel), fun _ => List.mem_of_getElem? (i := 49) (by decide +kernel), fun h => by cases h, by decide +kernel⟩
theorem mf_Mod_rodsLine : mj_facts 12979520 yX12_rodsLine cX12_rodsLine (none) 1 := ⟨⟨List.mem_of_getElem? (i := 128) (by decide +kernel), by decide +kernel, rfl, by decide +kernel, by decide +kernel, by decide +kernel⟩, fun _ => List.mem_of_getElem? (i := 1849) (by decide +kernel), fun h => absurd (by decide +kernel) h, fun h => by cases h, fun _ => List.mem_of_getElem? (i := 1848) (by decide +kernel), fun _ => List.mem_of_getElem? (i := 52) (by decide +kernel), fun h => by cases h, by decide +kernel⟩
theorem mf_Mod_handLine : mj_facts 13111617 yX12_handLine cX12_handLine (none) 1 := ⟨⟨List.mem_of_getElem? (i := 128) (by decide +kernel), by decide +kernel, rfl, by decide +kernel, by decide +kernel, by decide +kernel⟩, fun _ => List.mem_of_getElem? (i := 1854) (by decide +kernel), fun h => absurd (by decide +kernel) h, fun h => by cases h, fun _ => List.mem_of_getElem? (i := 1853) (by decide +kernel), fun _ => List.mem_of_getElem? (i := 53) (by decide +kernel), fun h => by cases h, by decide +kernel⟩
theorem mf_Mod_hires : mj_facts 13241666 yX12_hires cX12_hires (none) 1 := ⟨⟨List.mem_of_getElem? (i := 128) (by decide +kernel), by decide +kernel, rfl, by decide +kernel, by decide +kernel, by decide +kernel⟩, fun _ => List.mem_of_getElem? (i := 1860) (by decide +kernel), fun h => absurd (by decide +kernel) h, fun h => by cases h, fun _ => List.mem_of_getElem? (i := 1859) (by decide +kernel), fun _ => List.mem_of_getElem? (i := 54) (by decide +kernel), fun h => by cases h, by decide +kernel⟩
theorem mf_Mod_orderLine : mj_facts 13373761 yX12_orderLine cX12_orderLine (none) 1 := ⟨⟨List.mem_of_getElem? (i := 128) (by decide +kernel), by decide +kernel, rfl, by decide +kernel, by decide +kernel, by decide +kernel⟩, fun _ => List.mem_of_getElem? (i := 1865) (by decide +kernel), fun h => absurd (by decide +kernel) h, fun h => by cases h, fun _ => List.mem_of_getElem? (i := 1864) (by decide +kernel), fun _ => List.mem_of_getElem? (i := 55) (by decide +kernel), fun h => by cases h, by decide +kernel⟩
theorem mf_Mod_takes : mj_facts 13504834 yX12_takes cX12_takes (none) 1 := ⟨⟨List.mem_of_getElem? (i := 128) (by decide +kernel), by decide +kernel, rfl, by decide +kernel, by decide +kernel, by decide +kernel⟩, fun _ => List.mem_of_getElem? (i := 1869) (by decide +kernel), fun h => absurd (by decide +kernel) h, fun h => by cases h, fun _ => List.mem_of_getElem? (i := 1868) (by decide +kernel), fun _ => List.mem_of_getElem? (i := 56) (by decide +kernel), fun h => by cases h, by decide +kernel⟩
theorem mf_Mod_tells : mj_facts 13636931 yX12_tells cX12_tells (none) 1 := ⟨⟨List.mem_of_getElem? (i := 128) (by decide +kernel), by decide +kernel, rfl, by decide +kernel, by decide +kernel, by decide +kernel⟩, fun _ => List.mem_of_getElem? (i := 1874) (by decide +kernel), fun h => absurd (by decide +kernel) h, fun h => by cases h, fun _ => List.mem_of_getElem? (i := 1873) (by decide +kernel), fun _ => List.mem_of_getElem? (i := 57) (by decide +kernel), fun h => by cases h, by decide +kernel⟩
theorem mf_Mod_holtLine : mj_facts 13764928 yX12_holtLine cX12_holtLine (none) 1 := ⟨⟨List.mem_of_getElem? (i := 128) (by decide +kernel), by decide +kernel, rfl, by decide +kernel, by decide +kernel, by decide +kernel⟩, fun _ => List.mem_of_getElem? (i := 1811) (by decide +kernel), fun h => absurd (by decide +kernel) h, fun h => by cases h, fun _ => List.mem_of_getElem? (i := 1810) (by decide +kernel), fun _ => List.mem_of_getElem? (i := 45) (by decide +kernel), fun h => by cases h, by decide +kernel⟩
theorem mf_Mod_begins : mj_facts 13894976 yX12_begins cX12_begins (none) 1 := ⟨⟨List.mem_of_getElem? (i := 128) (by decide +kernel), by decide +kernel, rfl, by decide +kernel, by decide +kernel, by decide +kernel⟩, fun _ => List.mem_of_getElem? (i := 1728) (by decide +kernel), fun h => absurd (by decide +kernel) h, fun h => by cases h, fun _ => List.mem_of_getElem? (i := 1727) (by decide +kernel), fun _ => List.mem_of_getElem? (i := 29) (by decide +kernel), fun h => by cases h, by decide +kernel⟩
theorem mf_Mod_read : mj_facts 14029121 yX12_read cX12_read (some .int) 1 := ⟨⟨List.mem_of_getElem? (i := 128) (by decide +kernel), by decide +kernel, rfl, by decide +kernel, by decide +kernel, by decide +kernel⟩, fun _ => List.mem_of_getElem? (i := 1732) (by decide +kernel), fun h => absurd (by decide +kernel) h, fun h => by cases h, fun _ => List.mem_of_getElem? (i := 1731) (by decide +kernel), fun _ => List.mem_of_getElem? (i := 30) (by decide +kernel), fun h => by cases h, by decide +kernel⟩
theorem mf_Mod_putsAside : mj_facts 14158144 yX12_putsAside cX12_putsAside (none) 1 := ⟨⟨List.mem_of_getElem? (i := 128) (by decide +kernel), by decide +kernel, rfl, by decide +kernel, by decide +kernel, by decide +kernel⟩, fun _ => List.mem_of_getElem? (i := 1724) (by decide +kernel), fun h => absurd (by decide +kernel) h, fun h => by cases h, fun _ => List.mem_of_getElem? (i := 1723) (by decide +kernel), fun _ => List.mem_of_getElem? (i := 28) (by decide +kernel), fun h => by cases h, by decide +kernel⟩
theorem mf_Mod_comesBack : mj_facts 14289216 yX12_comesBack cX12_comesBack (none) 1 := ⟨⟨List.mem_of_getElem? (i := 128) (by decide +kernel), by decide +kernel, rfl, by decide +kernel, by decide +kernel, by decide +kernel⟩, fun _ => List.mem_of_getElem? (i := 1878) (by decide +kernel), fun h => absurd (by decide +kernel) h, fun h => by cases h, fun _ => List.mem_of_getElem? (i := 1877) (by decide +kernel), fun _ => List.mem_of_getElem? (i := 58) (by decide +kernel), fun h => by cases h, by decide +kernel⟩
theorem mf_Mod_holt : mj_facts 14420288 yX12_holt cX12_holt (some .int) 1 := ⟨⟨List.mem_of_getElem? (i := 128) (by decide +kernel), by decide +kernel, rfl, by decide +kernel, by decide +kernel, by decide +kernel⟩, fun _ => List.mem_of_getElem? (i := 1720) (by decide +kernel), fun h => absurd (by decide +kernel) h, fun h => by cases h, fun _ => List.mem_of_getElem? (i := 1718) (by decide +kernel), fun _ => List.mem_of_getElem? (i := 1719) (by decide +kernel), fun h => by cases h, by decide +kernel⟩
theorem mf_Mod_part : mj_facts 14551360 yX12_part cX12_part (some .int) 1 := ⟨⟨List.mem_of_getElem? (i := 128) (by decide +kernel), by decide +kernel, rfl, by decide +kernel, by decide +kernel, by decide +kernel⟩, fun _ => List.mem_of_getElem? (i := 1798) (by decide +kernel), fun h => absurd (by decide +kernel) h, fun h => by cases h, fun _ => List.mem_of_getElem? (i := 1797) (by decide +kernel), fun _ => List.mem_of_getElem? (i := 44) (by decide +kernel), fun h => by cases h, by decide +kernel⟩
theorem mf_Mod_sum : mj_facts 14682432 yX12_sum cX12_sum (some .int) 1 := ⟨⟨List.mem_of_getElem? (i := 128) (by decide +kernel), by decide +kernel, rfl, by decide +kernel, by decide +kernel, by decide +kernel⟩, fun _ => List.mem_of_getElem? (i := 1794) (by decide +kernel), fun h => absurd (by decide +kernel) h, fun h => by cases h, fun _ => List.mem_of_getElem? (i := 1793) (by decide +kernel), fun _ => List.mem_of_getElem? (i := 43) (by decide +kernel), fun h => by cases h, by decide +kernel⟩
theorem mf_Mod_plain : mj_facts 14881088 yX12_plain cX12_plain (some .boolean) 1 := ⟨⟨List.mem_of_getElem? (i := 128) (by decide +kernel), by decide +kernel, rfl, by decide +kernel, by decide +kernel, by decide +kernel⟩, fun _ => List.mem_of_getElem? (i := 1787) (by decide +kernel), fun h => absurd (by decide +kernel) h, fun h => by cases h, fun _ => List.mem_of_getElem? (i := 1786) (by decide +kernel), fun _ => List.mem_of_getElem? (i := 42) (by decide +kernel), fun h => by cases h, by decide +kernel⟩
theorem mf_Mod_atom : mj_facts 15012160 yX12_atom cX12_atom (some .boolean) 1 := ⟨⟨List.mem_of_getElem? (i := 128) (by decide +kernel), by decide +kernel, rfl, by decide +kernel, by decide +kernel, by decide +kernel⟩, fun _ => List.mem_of_getElem? (i := 1778) (by decide +kernel), fun h => absurd (by decide +kernel) h, fun h => by cases h, fun _ => List.mem_of_getElem? (i := 1777) (by decide +kernel), fun _ => List.mem_of_getElem? (i := 40) (by decide +kernel), fun h => by cases h, by decide +kernel⟩
theorem mf_Mod_every : mj_facts 15142208 yX12_every cX12_every (some .boolean) 1 := ⟨⟨List.mem_of_getElem? (i := 128) (by decide +kernel), by decide +kernel, rfl, by decide +kernel, by decide +kernel, by decide +kernel⟩, fun _ => List.mem_of_getElem? (i := 1774) (by decide +kernel), fun h => absurd (by decide +kernel) h, fun h => by cases h, fun _ => List.mem_of_getElem? (i := 1773) (by decide +kernel), fun _ => List.mem_of_getElem? (i := 39) (by decide +kernel), fun h => by cases h, by decide +kernel⟩
theorem mf_Mod_some : mj_facts 15273280 yX12_some cX12_some (some .boolean) 1 := ⟨⟨List.mem_of_getElem? (i := 128) (by decide +kernel), by decide +kernel, rfl, by decide +kernel, by decide +kernel, by decide +kernel⟩, fun _ => List.mem_of_getElem? (i := 1770) (by decide +kernel), fun h => absurd (by decide +kernel) h, fun h => by cases h, fun _ => List.mem_of_getElem? (i := 1769) (by decide +kernel), fun _ => List.mem_of_getElem? (i := 38) (by decide +kernel), fun h => by cases h, by decide +kernel⟩
theorem mf_Mod_lawLine : mj_facts 15339840 yX12_lawLine cX12_lawLine (none) 1 := ⟨⟨List.mem_of_getElem? (i := 128) (by decide +kernel), by decide +kernel, rfl, by decide +kernel, by decide +kernel, by decide +kernel⟩, fun _ => List.mem_of_getElem? (i := 1748) (by decide +kernel), fun h => absurd (by decide +kernel) h, fun h => by cases h, fun _ => List.mem_of_getElem? (i := 1747) (by decide +kernel), fun _ => List.mem_of_getElem? (i := 34) (by decide +kernel), fun h => by cases h, by decide +kernel⟩
theorem mf_Mod_law : mj_facts 15469888 yX12_law cX12_law (some .int) 1 := ⟨⟨List.mem_of_getElem? (i := 128) (by decide +kernel), by decide +kernel, rfl, by decide +kernel, by decide +kernel, by decide +kernel⟩, fun _ => List.mem_of_getElem? (i := 1882) (by decide +kernel), fun h => absurd (by decide +kernel) h, fun h => by cases h, fun _ => List.mem_of_getElem? (i := 1880) (by decide +kernel), fun _ => List.mem_of_getElem? (i := 1881) (by decide +kernel), fun h => by cases h, by decide +kernel⟩
theorem mf_Mod_fault : mj_facts 15598912 yX12_fault cX12_fault (some .int) 1 := ⟨⟨List.mem_of_getElem? (i := 128) (by decide +kernel), by decide +kernel, rfl, by decide +kernel, by decide +kernel, by decide +kernel⟩, fun _ => List.mem_of_getElem? (i := 1886) (by decide +kernel), fun h => absurd (by decide +kernel) h, fun h => by cases h, fun _ => List.mem_of_getElem? (i := 1884) (by decide +kernel), fun _ => List.mem_of_getElem? (i := 1885) (by decide +kernel), fun h => by cases h, by decide +kernel⟩
theorem mf_Mod_asks : mj_facts 15733057 yX12_asks cX12_asks (none) 1 := ⟨⟨List.mem_of_getElem? (i := 128) (by decide +kernel), by decide +kernel, rfl, by decide +kernel, by decide +kernel, by decide +kernel⟩, fun _ => List.mem_of_getElem? (i := 1906) (by decide +kernel), fun h => absurd (by decide +kernel) h, fun h => by cases h, fun _ => List.mem_of_getElem? (i := 1905) (by decide +kernel), fun _ => List.mem_of_getElem? (i := 62) (by decide +kernel), fun h => by cases h, by decide +kernel⟩
theorem mf_Mod_reachOf : mj_facts 15862081 yX12_reachOf cX12_reachOf (some .int) 1 := ⟨⟨List.mem_of_getElem? (i := 128) (by decide +kernel), by decide +kernel, rfl, by decide +kernel, by decide +kernel, by decide +kernel⟩, fun _ => List.mem_of_getElem? (i := 1902) (by decide +kernel), fun h => absurd (by decide +kernel) h, fun h => by cases h, fun _ => List.mem_of_getElem? (i := 1901) (by decide +kernel), fun _ => List.mem_of_getElem? (i := 61) (by decide +kernel), fun h => by cases h, by decide +kernel⟩
theorem mf_Mod_yieldOf : mj_facts 15993153 yX12_yieldOf cX12_yieldOf (some .int) 1 := ⟨⟨List.mem_of_getElem? (i := 128) (by decide +kernel), by decide +kernel, rfl, by decide +kernel, by decide +kernel, by decide +kernel⟩, fun _ => List.mem_of_getElem? (i := 1916) (by decide +kernel), fun h => absurd (by decide +kernel) h, fun h => by cases h, fun _ => List.mem_of_getElem? (i := 1915) (by decide +kernel), fun _ => List.mem_of_getElem? (i := 63) (by decide +kernel), fun h => by cases h, by decide +kernel⟩
theorem mf_Mod_period : mj_facts 16126273 yX12_period cX12_period (some .int) 1 := ⟨⟨List.mem_of_getElem? (i := 128) (by decide +kernel), by decide +kernel, rfl, by decide +kernel, by decide +kernel, by decide +kernel⟩, fun _ => List.mem_of_getElem? (i := 1940) (by decide +kernel), fun h => absurd (by decide +kernel) h, fun h => by cases h, fun _ => List.mem_of_getElem? (i := 1939) (by decide +kernel), fun _ => List.mem_of_getElem? (i := 68) (by decide +kernel), fun h => by cases h, by decide +kernel⟩
theorem mf_Mod_isOver : mj_facts 16323906 yX12_isOver cX12_isOver (some .boolean) 1 := ⟨⟨List.mem_of_getElem? (i := 128) (by decide +kernel), by decide +kernel, rfl, by decide +kernel, by decide +kernel, by decide +kernel⟩, fun _ => List.mem_of_getElem? (i := 1952) (by decide +kernel), fun h => absurd (by decide +kernel) h, fun h => by cases h, fun _ => List.mem_of_getElem? (i := 1951) (by decide +kernel), fun _ => List.mem_of_getElem? (i := 71) (by decide +kernel), fun h => by cases h, by decide +kernel⟩
theorem mf_Mod_comesAgain : mj_facts 16453954 yX12_comesAgain cX12_comesAgain (some .boolean) 1 := ⟨⟨List.mem_of_getElem? (i := 128) (by decide +kernel), by decide +kernel, rfl, by decide +kernel, by decide +kernel, by decide +kernel⟩, fun _ => List.mem_of_getElem? (i := 1948) (by decide +kernel), fun h => absurd (by decide +kernel) h, fun h => by cases h, fun _ => List.mem_of_getElem? (i := 1947) (by decide +kernel), fun _ => List.mem_of_getElem? (i := 70) (by decide +kernel), fun h => by cases h, by decide +kernel⟩
theorem mf_Mod_againOf : mj_facts 16518465 yX12_againOf cX12_againOf (some .int) 1 := ⟨⟨List.mem_of_getElem? (i := 128) (by decide +kernel), by decide +kernel, rfl, by decide +kernel, by decide +kernel, by decide +kernel⟩, fun _ => List.mem_of_getElem? (i := 1944) (by decide +kernel), fun h => absurd (by decide +kernel) h, fun h => by cases h, fun _ => List.mem_of_getElem? (i := 1943) (by decide +kernel), fun _ => List.mem_of_getElem? (i := 69) (by decide +kernel), fun h => by cases h, by decide +kernel⟩
theorem mf_Mod_needOf : mj_facts 16649537 yX12_needOf cX12_needOf (some .int) 1 := ⟨⟨List.mem_of_getElem? (i := 128) (by decide +kernel), by decide +kernel, rfl, by decide +kernel, by decide +kernel, by decide +kernel⟩, fun _ => List.mem_of_getElem? (i := 1936) (by decide +kernel), fun h => absurd (by decide +kernel) h, fun h => by cases h, fun _ => List.mem_of_getElem? (i := 1935) (by decide +kernel), fun _ => List.mem_of_getElem? (i := 67) (by decide +kernel), fun h => by cases h, by decide +kernel⟩
theorem mf_Mod_rodsOf : mj_facts 16779585 yX12_rodsOf cX12_rodsOf (some .int) 1 := ⟨⟨List.mem_of_getElem? (i := 128) (by decide +kernel), by decide +kernel, rfl, by decide +kernel, by decide +kernel, by decide +kernel⟩, fun _ => List.mem_of_getElem? (i := 2041) (by decide +kernel), fun h => absurd (by decide +kernel) h, fun h => by cases h, fun _ => List.mem_of_getElem? (i := 2040) (by decide +kernel), fun _ => List.mem_of_getElem? (i := 87) (by decide +kernel), fun h => by cases h, by decide +kernel⟩
theorem mf_Mod_feetOf : mj_facts 16910657 yX12_feetOf cX12_feetOf (some .int) 1 := ⟨⟨List.mem_of_getElem? (i := 128) (by decide +kernel), by decide +kernel, rfl, by decide +kernel, by decide +kernel, by decide +kernel⟩, fun _ => List.mem_of_getElem? (i := 2074) (by decide +kernel), fun h => absurd (by decide +kernel) h, fun h => by cases h, fun _ => List.mem_of_getElem? (i := 2073) (by decide +kernel), fun _ => List.mem_of_getElem? (i := 94) (by decide +kernel), fun h => by cases h, by decide +kernel⟩
theorem mf_Mod_paysOf : mj_facts 17041729 yX12_paysOf cX12_paysOf (some .int) 1 := ⟨⟨List.mem_of_getElem? (i := 128) (by decide +kernel), by decide +kernel, rfl, by decide +kernel, by decide +kernel, by decide +kernel⟩, fun _ => List.mem_of_getElem? (i := 2082) (by decide +kernel), fun h => absurd (by decide +kernel) h, fun h => by cases h, fun _ => List.mem_of_getElem? (i := 2081) (by decide +kernel), fun _ => List.mem_of_getElem? (i := 96) (by decide +kernel), fun h => by cases h, by decide +kernel⟩
theorem mf_Mod_hasRods : mj_facts 17238337 yX12_hasRods cX12_hasRods (some .boolean) 1 := ⟨⟨List.mem_of_getElem? (i := 128) (by decide +kernel), by decide +kernel, rfl, by decide +kernel, by decide +kernel, by decide +kernel⟩, fun _ => List.mem_of_getElem? (i := 2070) (by decide +kernel), fun h => absurd (by decide +kernel) h, fun h => by cases h, fun _ => List.mem_of_getElem? (i := 2069) (by decide +kernel), fun _ => List.mem_of_getElem? (i := 93) (by decide +kernel), fun h => by cases h, by decide +kernel⟩
theorem mf_Mod_draw : mj_facts 17303873 yX12_draw cX12_draw (some .int) 1 := ⟨⟨List.mem_of_getElem? (i := 128) (by decide +kernel), by decide +kernel, rfl, by decide +kernel, by decide +kernel, by decide +kernel⟩, fun _ => List.mem_of_getElem? (i := 2061) (by decide +kernel), fun h => absurd (by decide +kernel) h, fun h => by cases h, fun _ => List.mem_of_getElem? (i := 2060) (by decide +kernel), fun _ => List.mem_of_getElem? (i := 91) (by decide +kernel), fun h => by cases h, by decide +kernel⟩
theorem mf_Mod_logs : mj_facts 17438019 yX12_logs cX12_logs (none) 1 := ⟨⟨List.mem_of_getElem? (i := 128) (by decide +kernel), by decide +kernel, rfl, by decide +kernel, by decide +kernel, by decide +kernel⟩, fun _ => List.mem_of_getElem? (i := 2086) (by decide +kernel), fun h => absurd (by decide +kernel) h, fun h => by cases h, fun _ => List.mem_of_getElem? (i := 2085) (by decide +kernel), fun _ => List.mem_of_getElem? (i := 97) (by decide +kernel), fun h => by cases h, by decide +kernel⟩
theorem mf_Mod_makes : mj_facts 17567042 yX12_makes cX12_makes (none) 1 := ⟨⟨List.mem_of_getElem? (i := 128) (by decide +kernel), by decide +kernel, rfl, by decide +kernel, by decide +kernel, by decide +kernel⟩, fun _ => List.mem_of_getElem? (i := 2078) (by decide +kernel), fun h => absurd (by decide +kernel) h, fun h => by cases h, fun _ => List.mem_of_getElem? (i := 2077) (by decide +kernel), fun _ => List.mem_of_getElem? (i := 95) (by decide +kernel), fun h => by cases h, by decide +kernel⟩
theorem mf_Mod_ages : mj_facts 17698113 yX12_ages cX12_ages (none) 1 := ⟨⟨List.mem_of_getElem? (i := 128) (by decide +kernel), by decide +kernel, rfl, by decide +kernel, by decide +kernel, by decide +kernel⟩, fun _ => List.mem_of_getElem? (i := 2066) (by decide +kernel), fun h => absurd (by decide +kernel) h, fun h => by cases h, fun _ => List.mem_of_getElem? (i := 2065) (by decide +kernel), fun _ => List.mem_of_getElem? (i := 92) (by decide +kernel), fun h => by cases h, by decide +kernel⟩
theorem mf_Mod_passes : mj_facts 17831233 yX12_passes cX12_passes (some .int) 1 := ⟨⟨List.mem_of_getElem? (i := 128) (by decide +kernel), by decide +kernel, rfl, by decide +kernel, by decide +kernel, by decide +kernel⟩, fun _ => List.mem_of_getElem? (i := 2057) (by decide +kernel), fun h => absurd (by decide +kernel) h, fun h => by cases h, fun _ => List.mem_of_getElem? (i := 2056) (by decide +kernel), fun _ => List.mem_of_getElem? (i := 90) (by decide +kernel), fun h => by cases h, by decide +kernel⟩
theorem mf_Mod_goes : mj_facts 17962306 yX12_goes cX12_goes (some .int) 1 := ⟨⟨List.mem_of_getElem? (i := 128) (by decide +kernel), by decide +kernel, rfl, by decide +kernel, by decide +kernel, by decide +kernel⟩, fun _ => List.mem_of_getElem? (i := 2053) (by decide +kernel), fun h => absurd (by decide +kernel) h, fun h => by cases h, fun _ => List.mem_of_getElem? (i := 2052) (by decide +kernel), fun _ => List.mem_of_getElem? (i := 89) (by decide +kernel), fun h => by cases h, by decide +kernel⟩
theorem mf_Mod_stoolsOfAll : mj_facts 18091328 yX12_stoolsOfAll cX12_stoolsOfAll (some .int) 1 := ⟨⟨List.mem_of_getElem? (i := 128) (by decide +kernel), by decide +kernel, rfl, by decide +kernel, by decide +kernel, by decide +kernel⟩, fun _ => List.mem_of_getElem? (i := 1920) (by decide +kernel), fun h => absurd (by decide +kernel) h, fun h => by cases h, fun _ => List.mem_of_getElem? (i := 1919) (by decide +kernel), fun _ => List.mem_of_getElem? (i := 64) (by decide +kernel), fun h => by cases h, by decide +kernel⟩
theorem mf_Mod_openOnes : mj_facts 18222400 yX12_openOnes cX12_openOnes (some .int) 1 := ⟨⟨List.mem_of_getElem? (i := 128) (by decide +kernel), by decide +kernel, rfl, by decide +kernel, by decide +kernel, by decide +kernel⟩, fun _ => List.mem_of_getElem? (i := 2164) (by decide +kernel), fun h => absurd (by decide +kernel) h, fun h => by cases h, fun _ => List.mem_of_getElem? (i := 2163) (by decide +kernel), fun _ => List.mem_of_getElem? (i := 103) (by decide +kernel), fun h => by cases h, by decide +kernel⟩
theorem mf_Mod_bed : mj_facts 18353474 yX12_bed cX12_bed (some .int) 1 := ⟨⟨List.mem_of_getElem? (i := 128) (by decide +kernel), by decide +kernel, rfl, by decide +kernel, by decide +kernel, by decide +kernel⟩, fun _ => List.mem_of_getElem? (i := 1890) (by decide +kernel), fun h => absurd (by decide +kernel) h, fun h => by cases h, fun _ => List.mem_of_getElem? (i := 1888) (by decide +kernel), fun _ => List.mem_of_getElem? (i := 1889) (by decide +kernel), fun h => by cases h, by decide +kernel⟩
theorem mf_Mod_looseBy : mj_facts 18488642 yX12_looseBy cX12_looseBy (some .int) 1 := ⟨⟨List.mem_of_getElem? (i := 128) (by decide +kernel), by decide +kernel, rfl, by decide +kernel, by decide +kernel, by decide +kernel⟩, fun _ => List.mem_of_getElem? (i := 1960) (by decide +kernel), fun h => absurd (by decide +kernel) h, fun h => by cases h, fun _ => List.mem_of_getElem? (i := 1959) (by decide +kernel), fun _ => List.mem_of_getElem? (i := 73) (by decide +kernel), fun h => by cases h, by decide +kernel⟩
theorem mf_Mod_loose : mj_facts 18614593 yX12_loose cX12_loose (some .int) 1 := ⟨⟨List.mem_of_getElem? (i := 128) (by decide +kernel), by decide +kernel, rfl, by decide +kernel, by decide +kernel, by decide +kernel⟩, fun _ => List.mem_of_getElem? (i := 1956) (by decide +kernel), fun h => absurd (by decide +kernel) h, fun h => by cases h, fun _ => List.mem_of_getElem? (i := 1955) (by decide +kernel), fun _ => List.mem_of_getElem? (i := 72) (by decide +kernel), fun h => by cases h, by decide +kernel⟩
theorem mf_Mod_floatOf : mj_facts 18748737 yX12_floatOf cX12_floatOf (some .int) 1 := ⟨⟨List.mem_of_getElem? (i := 128) (by decide +kernel), by decide +kernel, rfl, by decide +kernel, by decide +kernel, by decide +kernel⟩, fun _ => List.mem_of_getElem? (i := 1964) (by decide +kernel), fun h => absurd (by decide +kernel) h, fun h => by cases h, fun _ => List.mem_of_getElem? (i := 1963) (by decide +kernel), fun _ => List.mem_of_getElem? (i := 74) (by decide +kernel), fun h => by cases h, by decide +kernel⟩
theorem mf_Mod_isSame : mj_facts 18945347 yX12_isSame cX12_isSame (some .boolean) 1 := ⟨⟨List.mem_of_getElem? (i := 128) (by decide +kernel), by decide +kernel, rfl, by decide +kernel, by decide +kernel, by decide +kernel⟩, fun _ => List.mem_of_getElem? (i := 1972) (by decide +kernel), fun h => absurd (by decide +kernel) h, fun h => by cases h, fun _ => List.mem_of_getElem? (i := 1971) (by decide +kernel), fun _ => List.mem_of_getElem? (i := 76) (by decide +kernel), fun h => by cases h, by decide +kernel⟩
theorem mf_Mod_dropOf : mj_facts 19011905 yX12_dropOf cX12_dropOf (some .int) 1 := ⟨⟨List.mem_of_getElem? (i := 128) (by decide +kernel), by decide +kernel, rfl, by decide +kernel, by decide +kernel, by decide +kernel⟩, fun _ => List.mem_of_getElem? (i := 1968) (by decide +kernel), fun h => absurd (by decide +kernel) h, fun h => by cases h, fun _ => List.mem_of_getElem? (i := 1967) (by decide +kernel), fun _ => List.mem_of_getElem? (i := 75) (by decide +kernel), fun h => by cases h, by decide +kernel⟩
theorem mf_Mod_blindOf : mj_facts 19142977 yX12_blindOf cX12_blindOf (some .int) 1 := ⟨⟨List.mem_of_getElem? (i := 128) (by decide +kernel), by decide +kernel, rfl, by decide +kernel, by decide +kernel, by decide +kernel⟩, fun _ => List.mem_of_getElem? (i := 1976) (by decide +kernel), fun h => absurd (by decide +kernel) h, fun h => by cases h, fun _ => List.mem_of_getElem? (i := 1975) (by decide +kernel), fun _ => List.mem_of_getElem? (i := 77) (by decide +kernel), fun h => by cases h, by decide +kernel⟩
theorem mf_Mod_fitOf : mj_facts 19270977 yX12_fitOf cX12_fitOf (some .int) 1 := ⟨⟨List.mem_of_getElem? (i := 128) (by decide +kernel), by decide +kernel, rfl, by decide +kernel, by decide +kernel, by decide +kernel⟩, fun _ => List.mem_of_getElem? (i := 1980) (by decide +kernel), fun h => absurd (by decide +kernel) h, fun h => by cases h, fun _ => List.mem_of_getElem? (i := 1979) (by decide +kernel), fun _ => List.mem_of_getElem? (i := 78) (by decide +kernel), fun h => by cases h, by decide +kernel⟩
theorem mf_Mod_changeOf : mj_facts 19407170 yX12_changeOf cX12_changeOf (some .int) 1 := ⟨⟨List.mem_of_getElem? (i := 128) (by decide +kernel), by decide +kernel, rfl, by decide +kernel, by decide +kernel, by decide +kernel⟩, fun _ => List.mem_of_getElem? (i := 1989) (by decide +kernel), fun h => absurd (by decide +kernel) h, fun h => by cases h, fun _ => List.mem_of_getElem? (i := 1988) (by decide +kernel), fun _ => List.mem_of_getElem? (i := 80) (by decide +kernel), fun h => by cases h, by decide +kernel⟩
theorem mf_Mod_nearest : mj_facts 19536193 yX12_nearest cX12_nearest (some .int) 1 := ⟨⟨List.mem_of_getElem? (i := 128) (by decide +kernel), by decide +kernel, rfl, by decide +kernel, by decide +kernel, by decide +kernel⟩, fun _ => List.mem_of_getElem? (i := 1984) (by decide +kernel), fun h => absurd (by decide +kernel) h, fun h => by cases h, fun _ => List.mem_of_getElem? (i := 1983) (by decide +kernel), fun _ => List.mem_of_getElem? (i := 79) (by decide +kernel), fun h => by cases h, by decide +kernel⟩
theorem mf_Mod_basket : mj_facts 19664194 yX12_basket cX12_basket (some .int) 1 := ⟨⟨List.mem_of_getElem? (i := 128) (by decide +kernel), by decide +kernel, rfl, by decide +kernel, by decide +kernel, by decide +kernel⟩, fun _ => List.mem_of_getElem? (i := 1924) (by decide +kernel), fun h => absurd (by decide +kernel) h, fun h => by cases h, fun _ => List.mem_of_getElem? (i := 1922) (by decide +kernel), fun _ => List.mem_of_getElem? (i := 1923) (by decide +kernel), fun h => by cases h, by decide +kernel⟩
theorem mf_Mod_run : mj_facts 19795266 yX12_run cX12_run (some .int) 1 := ⟨⟨List.mem_of_getElem? (i := 128) (by decide +kernel), by decide +kernel, rfl, by decide +kernel, by decide +kernel, by decide +kernel⟩, fun _ => List.mem_of_getElem? (i := 1993) (by decide +kernel), fun h => absurd (by decide +kernel) h, fun h => by cases h, fun _ => List.mem_of_getElem? (i := 1991) (by decide +kernel), fun _ => List.mem_of_getElem? (i := 1992) (by decide +kernel), fun h => by cases h, by decide +kernel⟩
theorem mf_Mod_over : mj_facts 19992899 yX12_over cX12_over (some .boolean) 1 := ⟨⟨List.mem_of_getElem? (i := 128) (by decide +kernel), by decide +kernel, rfl, by decide +kernel, by decide +kernel, by decide +kernel⟩, fun _ => List.mem_of_getElem? (i := 1997) (by decide +kernel), fun h => absurd (by decide +kernel) h, fun h => by cases h, fun _ => List.mem_of_getElem? (i := 1995) (by decide +kernel), fun _ => List.mem_of_getElem? (i := 1996) (by decide +kernel), fun h => by cases h, by decide +kernel⟩
theorem mf_Mod_sound : mj_facts 20121921 yX12_sound cX12_sound (some .boolean) 1 := ⟨⟨List.mem_of_getElem? (i := 128) (by decide +kernel), by decide +kernel, rfl, by decide +kernel, by decide +kernel, by decide +kernel⟩, fun _ => List.mem_of_getElem? (i := 2001) (by decide +kernel), fun h => absurd (by decide +kernel) h, fun h => by cases h, fun _ => List.mem_of_getElem? (i := 1999) (by decide +kernel), fun _ => List.mem_of_getElem? (i := 2000) (by decide +kernel), fun h => by cases h, by decide +kernel⟩
theorem mf_Mod_store : mj_facts 20187457 yX12_store cX12_store (some .int) 1 := ⟨⟨List.mem_of_getElem? (i := 128) (by decide +kernel), by decide +kernel, rfl, by decide +kernel, by decide +kernel, by decide +kernel⟩, fun _ => List.mem_of_getElem? (i := 2005) (by decide +kernel), fun h => absurd (by decide +kernel) h, fun h => by cases h, fun _ => List.mem_of_getElem? (i := 2003) (by decide +kernel), fun _ => List.mem_of_getElem? (i := 2004) (by decide +kernel), fun h => by cases h, by decide +kernel⟩
theorem mf_Mod_hand : mj_facts 20319554 yX12_hand cX12_hand (some .int) 1 := ⟨⟨List.mem_of_getElem? (i := 128) (by decide +kernel), by decide +kernel, rfl, by decide +kernel, by decide +kernel, by decide +kernel⟩, fun _ => List.mem_of_getElem? (i := 2013) (by decide +kernel), fun h => absurd (by decide +kernel) h, fun h => by cases h, fun _ => List.mem_of_getElem? (i := 2011) (by decide +kernel), fun _ => List.mem_of_getElem? (i := 2012) (by decide +kernel), fun h => by cases h, by decide +kernel⟩
theorem mf_Mod_order : mj_facts 20450626 yX12_order cX12_order (some .int) 1 := ⟨⟨List.mem_of_getElem? (i := 128) (by decide +kernel), by decide +kernel, rfl, by decide +kernel, by decide +kernel, by decide +kernel⟩, fun _ => List.mem_of_getElem? (i := 2029) (by decide +kernel), fun h => absurd (by decide +kernel) h, fun h => by cases h, fun _ => List.mem_of_getElem? (i := 2027) (by decide +kernel), fun _ => List.mem_of_getElem? (i := 2028) (by decide +kernel), fun h => by cases h, by decide +kernel⟩
theorem mf_Mod_remembers : mj_facts 20580672 yX12_remembers cX12_remembers (none) 1 := ⟨⟨List.mem_of_getElem? (i := 128) (by decide +kernel), by decide +kernel, rfl, by decide +kernel, by decide +kernel, by decide +kernel⟩, fun _ => List.mem_of_getElem? (i := 2049) (by decide +kernel), fun h => absurd (by decide +kernel) h, fun h => by cases h, fun _ => List.mem_of_getElem? (i := 2048) (by decide +kernel), fun _ => List.mem_of_getElem? (i := 88) (by decide +kernel), fun h => by cases h, by decide +kernel⟩
theorem mf_Mod_sets : mj_facts 20713794 yX12_sets cX12_sets (some .int) 1 := ⟨⟨List.mem_of_getElem? (i := 128) (by decide +kernel), by decide +kernel, rfl, by decide +kernel, by decide +kernel, by decide +kernel⟩, fun _ => List.mem_of_getElem? (i := 2094) (by decide +kernel), fun h => absurd (by decide +kernel) h, fun h => by cases h, fun _ => List.mem_of_getElem? (i := 2093) (by decide +kernel), fun _ => List.mem_of_getElem? (i := 98) (by decide +kernel), fun h => by cases h, by decide +kernel⟩
theorem mf_Mod_years : mj_facts 20842817 yX12_years cX12_years (some .int) 1 := ⟨⟨List.mem_of_getElem? (i := 128) (by decide +kernel), by decide +kernel, rfl, by decide +kernel, by decide +kernel, by decide +kernel⟩, fun _ => List.mem_of_getElem? (i := 2045) (by decide +kernel), fun h => absurd (by decide +kernel) h, fun h => by cases h, fun _ => List.mem_of_getElem? (i := 2043) (by decide +kernel), fun _ => List.mem_of_getElem? (i := 2044) (by decide +kernel), fun h => by cases h, by decide +kernel⟩
theorem mf_Mod_cut : mj_facts 20976961 yX12_cut cX12_cut (some .int) 1 := ⟨⟨List.mem_of_getElem? (i := 128) (by decide +kernel), by decide +kernel, rfl, by decide +kernel, by decide +kernel, by decide +kernel⟩, fun _ => List.mem_of_getElem? (i := 2090) (by decide +kernel), fun h => absurd (by decide +kernel) h, fun h => by cases h, fun _ => List.mem_of_getElem? (i := 2088) (by decide +kernel), fun _ => List.mem_of_getElem? (i := 2089) (by decide +kernel), fun h => by cases h, by decide +kernel⟩
theorem mf_Mod_buy : mj_facts 21107010 yX12_buy cX12_buy (some .int) 1 := ⟨⟨List.mem_of_getElem? (i := 128) (by decide +kernel), by decide +kernel, rfl, by decide +kernel, by decide +kernel, by decide +kernel⟩, fun _ => List.mem_of_getElem? (i := 2098) (by decide +kernel), fun h => absurd (by decide +kernel) h, fun h => by cases h, fun _ => List.mem_of_getElem? (i := 2096) (by decide +kernel), fun _ => List.mem_of_getElem? (i := 2097) (by decide +kernel), fun h => by cases h, by decide +kernel⟩
theorem mf_Mod_sell : mj_facts 21238082 yX12_sell cX12_sell (some .int) 1 := ⟨⟨List.mem_of_getElem? (i := 128) (by decide +kernel), by decide +kernel, rfl, by decide +kernel, by decide +kernel, by decide +kernel⟩, fun _ => List.mem_of_getElem? (i := 2102) (by decide +kernel), fun h => absurd (by decide +kernel) h, fun h => by cases h, fun _ => List.mem_of_getElem? (i := 2100) (by decide +kernel), fun _ => List.mem_of_getElem? (i := 2101) (by decide +kernel), fun h => by cases h, by decide +kernel⟩
theorem mf_Mod_take : mj_facts 21368130 yX12_take cX12_take (some .int) 1 := ⟨⟨List.mem_of_getElem? (i := 128) (by decide +kernel), by decide +kernel, rfl, by decide +kernel, by decide +kernel, by decide +kernel⟩, fun _ => List.mem_of_getElem? (i := 2106) (by decide +kernel), fun h => absurd (by decide +kernel) h, fun h => by cases h, fun _ => List.mem_of_getElem? (i := 2104) (by decide +kernel), fun _ => List.mem_of_getElem? (i := 2105) (by decide +kernel), fun h => by cases h, by decide +kernel⟩
theorem mf_Mod_drop : mj_facts 21499201 yX12_drop cX12_drop (none) 1 := ⟨⟨List.mem_of_getElem? (i := 128) (by decide +kernel), by decide +kernel, rfl, by decide +kernel, by decide +kernel, by decide +kernel⟩, fun _ => List.mem_of_getElem? (i := 2110) (by decide +kernel), fun h => absurd (by decide +kernel) h, fun h => by cases h, fun _ => List.mem_of_getElem? (i := 2108) (by decide +kernel), fun _ => List.mem_of_getElem? (i := 2109) (by decide +kernel), fun h => by cases h, by decide +kernel⟩
theorem mf_Mod_drain : mj_facts 21630274 yX12_drain cX12_drain (some .int) 1 := ⟨⟨List.mem_of_getElem? (i := 128) (by decide +kernel), by decide +kernel, rfl, by decide +kernel, by decide +kernel, by decide +kernel⟩, fun _ => List.mem_of_getElem? (i := 2114) (by decide +kernel), fun h => absurd (by decide +kernel) h, fun h => by cases h, fun _ => List.mem_of_getElem? (i := 2112) (by decide +kernel), fun _ => List.mem_of_getElem? (i := 2113) (by decide +kernel), fun h => by cases h, by decide +kernel⟩
theorem mf_Mod_hire : mj_facts 21761346 yX12_hire cX12_hire (some .int) 1 := ⟨⟨List.mem_of_getElem? (i := 128) (by decide +kernel), by decide +kernel, rfl, by decide +kernel, by decide +kernel, by decide +kernel⟩, fun _ => List.mem_of_getElem? (i := 2118) (by decide +kernel), fun h => absurd (by decide +kernel) h, fun h => by cases h, fun _ => List.mem_of_getElem? (i := 2116) (by decide +kernel), fun _ => List.mem_of_getElem? (i := 2117) (by decide +kernel), fun h => by cases h, by decide +kernel⟩
theorem mf_Mod_teach : mj_facts 21892417 yX12_teach cX12_teach (some .int) 1 := ⟨⟨List.mem_of_getElem? (i := 128) (by decide +kernel), by decide +kernel, rfl, by decide +kernel, by decide +kernel, by decide +kernel⟩, fun _ => List.mem_of_getElem? (i := 2122) (by decide +kernel), fun h => absurd (by decide +kernel) h, fun h => by cases h, fun _ => List.mem_of_getElem? (i := 2120) (by decide +kernel), fun _ => List.mem_of_getElem? (i := 2121) (by decide +kernel), fun h => by cases h, by decide +kernel⟩
theorem mf_Mod_make : mj_facts 22022465 yX12_make cX12_make (some .int) 1 := ⟨⟨List.mem_of_getElem? (i := 128) (by decide +kernel), by decide +kernel, rfl, by decide +kernel, by decide +kernel, by decide +kernel⟩, fun _ => List.mem_of_getElem? (i := 2126) (by decide +kernel), fun h => absurd (by decide +kernel) h, fun h => by cases h, fun _ => List.mem_of_getElem? (i := 2124) (by decide +kernel), fun _ => List.mem_of_getElem? (i := 2125) (by decide +kernel), fun h => by cases h, by decide +kernel⟩
theorem mf_Mod_gainBy : mj_facts 22158659 yX12_gainBy cX12_gainBy (some .int) 1 := ⟨⟨List.mem_of_getElem? (i := 128) (by decide +kernel), by decide +kernel, rfl, by decide +kernel, by decide +kernel, by decide +kernel⟩, fun _ => List.mem_of_getElem? (i := 2138) (by decide +kernel), fun h => absurd (by decide +kernel) h, fun h => by cases h, fun _ => List.mem_of_getElem? (i := 2137) (by decide +kernel), fun _ => List.mem_of_getElem? (i := 100) (by decide +kernel), fun h => by cases h, by decide +kernel⟩
theorem mf_Mod_cutsOf : mj_facts 22288706 yX12_cutsOf cX12_cutsOf (some .int) 1 := ⟨⟨List.mem_of_getElem? (i := 128) (by decide +kernel), by decide +kernel, rfl, by decide +kernel, by decide +kernel, by decide +kernel⟩, fun _ => List.mem_of_getElem? (i := 2134) (by decide +kernel), fun h => absurd (by decide +kernel) h, fun h => by cases h, fun _ => List.mem_of_getElem? (i := 2133) (by decide +kernel), fun _ => List.mem_of_getElem? (i := 99) (by decide +kernel), fun h => by cases h, by decide +kernel⟩
theorem mf_Mod_gain : mj_facts 22416706 yX12_gain cX12_gain (some .int) 1 := ⟨⟨List.mem_of_getElem? (i := 128) (by decide +kernel), by decide +kernel, rfl, by decide +kernel, by decide +kernel, by decide +kernel⟩, fun _ => List.mem_of_getElem? (i := 2130) (by decide +kernel), fun h => absurd (by decide +kernel) h, fun h => by cases h, fun _ => List.mem_of_getElem? (i := 2128) (by decide +kernel), fun _ => List.mem_of_getElem? (i := 2129) (by decide +kernel), fun h => by cases h, by decide +kernel⟩
theorem mf_Mod_cuts : mj_facts 22547778 yX12_cuts cX12_cuts (some .int) 1 := ⟨⟨List.mem_of_getElem? (i := 128) (by decide +kernel), by decide +kernel, rfl, by decide +kernel, by decide +kernel, by decide +kernel⟩, fun _ => List.mem_of_getElem? (i := 2148) (by decide +kernel), fun h => absurd (by decide +kernel) h, fun h => by cases h, fun _ => List.mem_of_getElem? (i := 2146) (by decide +kernel), fun _ => List.mem_of_getElem? (i := 2147) (by decide +kernel), fun h => by cases h, by decide +kernel⟩
theorem mf_Mod_filled : mj_facts 22680897 yX12_filled cX12_filled (some .int) 1 := ⟨⟨List.mem_of_getElem? (i := 128) (by decide +kernel), by decide +kernel, rfl, by decide +kernel, by decide +kernel, by decide +kernel⟩, fun _ => List.mem_of_getElem? (i := 2160) (by decide +kernel), fun h => absurd (by decide +kernel) h, fun h => by cases h, fun _ => List.mem_of_getElem? (i := 2159) (by decide +kernel), fun _ => List.mem_of_getElem? (i := 102) (by decide +kernel), fun h => by cases h, by decide +kernel⟩
theorem mf_Mod_mostFilled : mj_facts 22810944 yX12_mostFilled cX12_mostFilled (some .int) 1 := ⟨⟨List.mem_of_getElem? (i := 128) (by decide +kernel), by decide +kernel, rfl, by decide +kernel, by decide +kernel, by decide +kernel⟩, fun _ => List.mem_of_getElem? (i := 2156) (by decide +kernel), fun h => absurd (by decide +kernel) h, fun h => by cases h, fun _ => List.mem_of_getElem? (i := 2155) (by decide +kernel), fun _ => List.mem_of_getElem? (i := 101) (by decide +kernel), fun h => by cases h, by decide +kernel⟩
theorem mf_Mod_worth : mj_facts 22938944 yX12_worth cX12_worth (some .int) 1 := ⟨⟨List.mem_of_getElem? (i := 128) (by decide +kernel), by decide +kernel, rfl, by decide +kernel, by decide +kernel, by decide +kernel⟩, fun _ => List.mem_of_getElem? (i := 2152) (by decide +kernel), fun h => absurd (by decide +kernel) h, fun h => by cases h, fun _ => List.mem_of_getElem? (i := 2150) (by decide +kernel), fun _ => List.mem_of_getElem? (i := 2151) (by decide +kernel), fun h => by cases h, by decide +kernel⟩
theorem mf_Mod_fills : mj_facts 23070016 yX12_fills cX12_fills (some .int) 1 := ⟨⟨List.mem_of_getElem? (i := 128) (by decide +kernel), by decide +kernel, rfl, by decide +kernel, by decide +kernel, by decide +kernel⟩, fun _ => List.mem_of_getElem? (i := 2168) (by decide +kernel), fun h => absurd (by decide +kernel) h, fun h => by cases h, fun _ => List.mem_of_getElem? (i := 2166) (by decide +kernel), fun _ => List.mem_of_getElem? (i := 2167) (by decide +kernel), fun h => by cases h, by decide +kernel⟩
theorem mf_Mod_packs : mj_facts 23273797 yX12_packs cX12_packs (some .boolean) 1 := ⟨⟨List.mem_of_getElem? (i := 128) (by decide +kernel), by decide +kernel, rfl, by decide +kernel, by decide +kernel, by decide +kernel⟩, fun _ => List.mem_of_getElem? (i := 2184) (by decide +kernel), fun h => absurd (by decide +kernel) h, fun h => by cases h, fun _ => List.mem_of_getElem? (i := 2183) (by decide +kernel), fun _ => List.mem_of_getElem? (i := 106) (by decide +kernel), fun h => by cases h, by decide +kernel⟩
theorem mf_Mod_rodsFor : mj_facts 23335234 yX12_rodsFor cX12_rodsFor (some .int) 1 := ⟨⟨List.mem_of_getElem? (i := 128) (by decide +kernel), by decide +kernel, rfl, by decide +kernel, by decide +kernel, by decide +kernel⟩, fun _ => List.mem_of_getElem? (i := 2180) (by decide +kernel), fun h => absurd (by decide +kernel) h, fun h => by cases h, fun _ => List.mem_of_getElem? (i := 2179) (by decide +kernel), fun _ => List.mem_of_getElem? (i := 105) (by decide +kernel), fun h => by cases h, by decide +kernel⟩
theorem mf_Mod_pieceMany : mj_facts 23467329 yX12_pieceMany cX12_pieceMany (some .int) 1 := ⟨⟨List.mem_of_getElem? (i := 128) (by decide +kernel), by decide +kernel, rfl, by decide +kernel, by decide +kernel, by decide +kernel⟩, fun _ => List.mem_of_getElem? (i := 2176) (by decide +kernel), fun h => absurd (by decide +kernel) h, fun h => by cases h, fun _ => List.mem_of_getElem? (i := 2175) (by decide +kernel), fun _ => List.mem_of_getElem? (i := 104) (by decide +kernel), fun h => by cases h, by decide +kernel⟩
theorem mf_Mod_pieces : mj_facts 23596353 yX12_pieces cX12_pieces (some .int) 1 := ⟨⟨List.mem_of_getElem? (i := 128) (by decide +kernel), by decide +kernel, rfl, by decide +kernel, by decide +kernel, by decide +kernel⟩, fun _ => List.mem_of_getElem? (i := 2172) (by decide +kernel), fun h => absurd (by decide +kernel) h, fun h => by cases h, fun _ => List.mem_of_getElem? (i := 2170) (by decide +kernel), fun _ => List.mem_of_getElem? (i := 2171) (by decide +kernel), fun h => by cases h, by decide +kernel⟩
theorem mf_Mod_rod : mj_facts 23728450 yX12_rod cX12_rod (some .int) 1 := ⟨⟨List.mem_of_getElem? (i := 128) (by decide +kernel), by decide +kernel, rfl, by decide +kernel, by decide +kernel, by decide +kernel⟩, fun _ => List.mem_of_getElem? (i := 2188) (by decide +kernel), fun h => absurd (by decide +kernel) h, fun h => by cases h, fun _ => List.mem_of_getElem? (i := 2186) (by decide +kernel), fun _ => List.mem_of_getElem? (i := 2187) (by decide +kernel), fun h => by cases h, by decide +kernel⟩
theorem mf_Mod_isWeave : mj_facts 23924033 yX12_isWeave cX12_isWeave (some .boolean) 0 := ⟨⟨List.mem_of_getElem? (i := 128) (by decide +kernel), by decide +kernel, rfl, by decide +kernel, by decide +kernel, by decide +kernel⟩, fun _ => List.mem_of_getElem? (i := 2199) (by decide +kernel), fun h => absurd (by decide +kernel) h, fun _ => List.mem_of_getElem? (i := 2198) (by decide +kernel), fun h => absurd rfl h, fun h => by cases h, fun h => by cases h, by decide +kernel⟩
theorem mf_Mod_isPassed : mj_facts 24054082 yX12_isPassed cX12_isPassed (some .boolean) 0 := ⟨⟨List.mem_of_getElem? (i := 128) (by decide +kernel), by decide +kernel, rfl, by decide +kernel, by decide +kernel, by decide +kernel⟩, fun _ => List.mem_of_getElem? (i := 2202) (by decide +kernel), fun h => absurd (by decide +kernel) h, fun _ => List.mem_of_getElem? (i := 2201) (by decide +kernel), fun h => absurd rfl h, fun h => by cases h, fun h => by cases h, by decide +kernel⟩
theorem mf_Mod_sees : mj_facts 24188224 yX12_sees cX12_sees (some .boolean) 1 := ⟨⟨List.mem_of_getElem? (i := 128) (by decide +kernel), by decide +kernel, rfl, by decide +kernel, by decide +kernel, by decide +kernel⟩, fun _ => List.mem_of_getElem? (i := 2196) (by decide +kernel), fun h => absurd (by decide +kernel) h, fun h => by cases h, fun _ => List.mem_of_getElem? (i := 2195) (by decide +kernel), fun _ => List.mem_of_getElem? (i := 107) (by decide +kernel), fun h => by cases h, by decide +kernel⟩
theorem mf_Mod_seenMany : mj_facts 24251712 yX12_seenMany cX12_seenMany (some .int) 1 := ⟨⟨List.mem_of_getElem? (i := 128) (by decide +kernel), by decide +kernel, rfl, by decide +kernel, by decide +kernel, by decide +kernel⟩, fun _ => List.mem_of_getElem? (i := 2206) (by decide +kernel), fun h => absurd (by decide +kernel) h, fun h => by cases h, fun _ => List.mem_of_getElem? (i := 2205) (by decide +kernel), fun _ => List.mem_of_getElem? (i := 108) (by decide +kernel), fun h => by cases h, by decide +kernel⟩
theorem mf_Mod_found : mj_facts 24382785 yX12_found cX12_found (some .int) 1 := ⟨⟨List.mem_of_getElem? (i := 128) (by decide +kernel), by decide +kernel, rfl, by decide +kernel, by decide +kernel, by decide +kernel⟩, fun _ => List.mem_of_getElem? (i := 2192) (by decide +kernel), fun h => absurd (by decide +kernel) h, fun h => by cases h, fun _ => List.mem_of_getElem? (i := 2190) (by decide +kernel), fun _ => List.mem_of_getElem? (i := 2191) (by decide +kernel), fun h => by cases h, by decide +kernel⟩
theorem mf_Mod_look : mj_facts 24517952 yX12_look cX12_look (some .int) 1 := ⟨⟨List.mem_of_getElem? (i := 128) (by decide +kernel), by decide +kernel, rfl, by decide +kernel, by decide +kernel, by decide +kernel⟩, fun _ => List.mem_of_getElem? (i := 2210) (by decide +kernel), fun h => absurd (by decide +kernel) h, fun h => by cases h, fun _ => List.mem_of_getElem? (i := 2208) (by decide +kernel), fun _ => List.mem_of_getElem? (i := 2209) (by decide +kernel), fun h => by cases h, by decide +kernel⟩
theorem mf_Mod_worksBy : mj_facts 24644930 yX12_worksBy cX12_worksBy (some .int) 1 := ⟨⟨List.mem_of_getElem? (i := 128) (by decide +kernel), by decide +kernel, rfl, by decide +kernel, by decide +kernel, by decide +kernel⟩, fun _ => List.mem_of_getElem? (i := 2222) (by decide +kernel), fun h => absurd (by decide +kernel) h, fun h => by cases h, fun _ => List.mem_of_getElem? (i := 2221) (by decide +kernel), fun _ => List.mem_of_getElem? (i := 110) (by decide +kernel), fun h => by cases h, by decide +kernel⟩
theorem mf_Mod_allTeams : mj_facts 24778048 yX12_allTeams cX12_allTeams (none) 1 := ⟨⟨List.mem_of_getElem? (i := 128) (by decide +kernel), by decide +kernel, rfl, by decide +kernel, by decide +kernel, by decide +kernel⟩, fun _ => List.mem_of_getElem? (i := 2218) (by decide +kernel), fun h => absurd (by decide +kernel) h, fun h => by cases h, fun _ => List.mem_of_getElem? (i := 2217) (by decide +kernel), fun _ => List.mem_of_getElem? (i := 109) (by decide +kernel), fun h => by cases h, by decide +kernel⟩
theorem mf_Mod_team : mj_facts 24911169 yX12_team cX12_team (some .int) 1 := ⟨⟨List.mem_of_getElem? (i := 128) (by decide +kernel), by decide +kernel, rfl, by decide +kernel, by decide +kernel, by decide +kernel⟩, fun _ => List.mem_of_getElem? (i := 2214) (by decide +kernel), fun h => absurd (by decide +kernel) h, fun h => by cases h, fun _ => List.mem_of_getElem? (i := 2212) (by decide +kernel), fun _ => List.mem_of_getElem? (i := 2213) (by decide +kernel), fun h => by cases h, by decide +kernel⟩
theorem mf_Mod_lowest : mj_facts 25037121 yX12_lowest cX12_lowest (some .int) 0 := ⟨⟨List.mem_of_getElem? (i := 128) (by decide +kernel), by decide +kernel, rfl, by decide +kernel, by decide +kernel, by decide +kernel⟩, fun _ => List.mem_of_getElem? (i := 2233) (by decide +kernel), fun h => absurd (by decide +kernel) h, fun _ => List.mem_of_getElem? (i := 2232) (by decide +kernel), fun h => absurd rfl h, fun h => by cases h, fun h => by cases h, by decide +kernel⟩
theorem mf_Mod_both : mj_facts 25169218 yX12_both cX12_both (some .int) 1 := ⟨⟨List.mem_of_getElem? (i := 128) (by decide +kernel), by decide +kernel, rfl, by decide +kernel, by decide +kernel, by decide +kernel⟩, fun _ => List.mem_of_getElem? (i := 2237) (by decide +kernel), fun h => absurd (by decide +kernel) h, fun h => by cases h, fun _ => List.mem_of_getElem? (i := 2236) (by decide +kernel), fun _ => List.mem_of_getElem? (i := 112) (by decide +kernel), fun h => by cases h, by decide +kernel⟩
theorem mf_Mod_allBest : mj_facts 25302336 yX12_allBest cX12_allBest (none) 1 := ⟨⟨List.mem_of_getElem? (i := 128) (by decide +kernel), by decide +kernel, rfl, by decide +kernel, by decide +kernel, by decide +kernel⟩, fun _ => List.mem_of_getElem? (i := 2230) (by decide +kernel), fun h => absurd (by decide +kernel) h, fun h => by cases h, fun _ => List.mem_of_getElem? (i := 2229) (by decide +kernel), fun _ => List.mem_of_getElem? (i := 111) (by decide +kernel), fun h => by cases h, by decide +kernel⟩
theorem mf_Mod_pairs : mj_facts 25435457 yX12_pairs cX12_pairs (some .int) 1 := ⟨⟨List.mem_of_getElem? (i := 128) (by decide +kernel), by decide +kernel, rfl, by decide +kernel, by decide +kernel, by decide +kernel⟩, fun _ => List.mem_of_getElem? (i := 2226) (by decide +kernel), fun h => absurd (by decide +kernel) h, fun h => by cases h, fun _ => List.mem_of_getElem? (i := 2224) (by decide +kernel), fun _ => List.mem_of_getElem? (i := 2225) (by decide +kernel), fun h => by cases h, by decide +kernel⟩
theorem mf_Mod_change : mj_facts 25562434 yX12_change cX12_change (some .int) 1 := ⟨⟨List.mem_of_getElem? (i := 128) (by decide +kernel), by decide +kernel, rfl, by decide +kernel, by decide +kernel, by decide +kernel⟩, fun _ => List.mem_of_getElem? (i := 2241) (by decide +kernel), fun h => absurd (by decide +kernel) h, fun h => by cases h, fun _ => List.mem_of_getElem? (i := 2239) (by decide +kernel), fun _ => List.mem_of_getElem? (i := 2240) (by decide +kernel), fun h => by cases h, by decide +kernel⟩
theorem mf_Mod_share : mj_facts 25696578 yX12_share cX12_share (some .int) 1 := ⟨⟨List.mem_of_getElem? (i := 128) (by decide +kernel), by decide +kernel, rfl, by decide +kernel, by decide +kernel, by decide +kernel⟩, fun _ => List.mem_of_getElem? (i := 2245) (by decide +kernel), fun h => absurd (by decide +kernel) h, fun h => by cases h, fun _ => List.mem_of_getElem? (i := 2243) (by decide +kernel), fun _ => List.mem_of_getElem? (i := 2244) (by decide +kernel), fun h => by cases h, by decide +kernel⟩
theorem mf_Mod_earned : mj_facts 25826626 yX12_earned cX12_earned (some .int) 1 := ⟨⟨List.mem_of_getElem? (i := 128) (by decide +kernel), by decide +kernel, rfl, by decide +kernel, by decide +kernel, by decide +kernel⟩, fun _ => List.mem_of_getElem? (i := 2253) (by decide +kernel), fun h => absurd (by decide +kernel) h, fun h => by cases h, fun _ => List.mem_of_getElem? (i := 2252) (by decide +kernel), fun _ => List.mem_of_getElem? (i := 113) (by decide +kernel), fun h => by cases h, by decide +kernel⟩
theorem mf_Mod_price : mj_facts 25956673 yX12_price cX12_price (some .int) 1 := ⟨⟨List.mem_of_getElem? (i := 128) (by decide +kernel), by decide +kernel, rfl, by decide +kernel, by decide +kernel, by decide +kernel⟩, fun _ => List.mem_of_getElem? (i := 2249) (by decide +kernel), fun h => absurd (by decide +kernel) h, fun h => by cases h, fun _ => List.mem_of_getElem? (i := 2247) (by decide +kernel), fun _ => List.mem_of_getElem? (i := 2248) (by decide +kernel), fun h => by cases h, by decide +kernel⟩
theorem mf_Mod_heHas : mj_facts 26087747 yX12_heHas cX12_heHas (some .int) 1 := ⟨⟨List.mem_of_getElem? (i := 128) (by decide +kernel), by decide +kernel, rfl, by decide +kernel, by decide +kernel, by decide +kernel⟩, fun _ => List.mem_of_getElem? (i := 2261) (by decide +kernel), fun h => absurd (by decide +kernel) h, fun h => by cases h, fun _ => List.mem_of_getElem? (i := 2260) (by decide +kernel), fun _ => List.mem_of_getElem? (i := 114) (by decide +kernel), fun h => by cases h, by decide +kernel⟩
theorem mf_Mod_riverHas : mj_facts 26216770 yX12_riverHas cX12_riverHas (some .int) 0 := ⟨⟨List.mem_of_getElem? (i := 128) (by decide +kernel), by decide +kernel, rfl, by decide +kernel, by decide +kernel, by decide +kernel⟩, fun _ => List.mem_of_getElem? (i := 2264) (by decide +kernel), fun h => absurd (by decide +kernel) h, fun _ => List.mem_of_getElem? (i := 2263) (by decide +kernel), fun h => absurd rfl h, fun h => by cases h, fun h => by cases h, by decide +kernel⟩
theorem mf_Mod_rests : mj_facts 26351937 yX12_rests cX12_rests (some .int) 1 := ⟨⟨List.mem_of_getElem? (i := 128) (by decide +kernel), by decide +kernel, rfl, by decide +kernel, by decide +kernel, by decide +kernel⟩, fun _ => List.mem_of_getElem? (i := 2257) (by decide +kernel), fun h => absurd (by decide +kernel) h, fun h => by cases h, fun _ => List.mem_of_getElem? (i := 2255) (by decide +kernel), fun _ => List.mem_of_getElem? (i := 2256) (by decide +kernel), fun h => by cases h, by decide +kernel⟩
theorem mf_Mod_odds : mj_facts 26488130 yX12_odds cX12_odds (some .int) 1 := ⟨⟨List.mem_of_getElem? (i := 128) (by decide +kernel), by decide +kernel, rfl, by decide +kernel, by decide +kernel, by decide +kernel⟩, fun _ => List.mem_of_getElem? (i := 2268) (by decide +kernel), fun h => absurd (by decide +kernel) h, fun h => by cases h, fun _ => List.mem_of_getElem? (i := 2266) (by decide +kernel), fun _ => List.mem_of_getElem? (i := 2267) (by decide +kernel), fun h => by cases h, by decide +kernel⟩
theorem mf_Mod_valueOf : mj_facts 26611010 yX12_valueOf cX12_valueOf (some .int) 1 := ⟨⟨List.mem_of_getElem? (i := 128) (by decide +kernel), by decide +kernel, rfl, by decide +kernel, by decide +kernel, by decide +kernel⟩, fun _ => List.mem_of_getElem? (i := 2278) (by decide +kernel), fun h => absurd (by decide +kernel) h, fun h => by cases h, fun _ => List.mem_of_getElem? (i := 2277) (by decide +kernel), fun _ => List.mem_of_getElem? (i := 115) (by decide +kernel), fun h => by cases h, by decide +kernel⟩
theorem mf_Mod_most : mj_facts 26744129 yX12_most cX12_most (some .int) 1 := ⟨⟨List.mem_of_getElem? (i := 128) (by decide +kernel), by decide +kernel, rfl, by decide +kernel, by decide +kernel, by decide +kernel⟩, fun _ => List.mem_of_getElem? (i := 2274) (by decide +kernel), fun h => absurd (by decide +kernel) h, fun h => by cases h, fun _ => List.mem_of_getElem? (i := 2272) (by decide +kernel), fun _ => List.mem_of_getElem? (i := 2273) (by decide +kernel), fun h => by cases h, by decide +kernel⟩
theorem mf_Mod_open : mj_facts 26874177 yX12_open cX12_open (some .int) 1 := ⟨⟨List.mem_of_getElem? (i := 128) (by decide +kernel), by decide +kernel, rfl, by decide +kernel, by decide +kernel, by decide +kernel⟩, fun _ => List.mem_of_getElem? (i := 2282) (by decide +kernel), fun h => absurd (by decide +kernel) h, fun h => by cases h, fun _ => List.mem_of_getElem? (i := 2280) (by decide +kernel), fun _ => List.mem_of_getElem? (i := 2281) (by decide +kernel), fun h => by cases h, by decide +kernel⟩
theorem mf_Mod_twins : mj_facts 27005248 yX12_twins cX12_twins (some .int) 1 := ⟨⟨List.mem_of_getElem? (i := 128) (by decide +kernel), by decide +kernel, rfl, by decide +kernel, by decide +kernel, by decide +kernel⟩, fun _ => List.mem_of_getElem? (i := 2286) (by decide +kernel), fun h => absurd (by decide +kernel) h, fun h => by cases h, fun _ => List.mem_of_getElem? (i := 2284) (by decide +kernel), fun _ => List.mem_of_getElem? (i := 2285) (by decide +kernel), fun h => by cases h, by decide +kernel⟩
theorem mf_Mod_sort : mj_facts 27136321 yX12_sort cX12_sort (some .int) 1 := ⟨⟨List.mem_of_getElem? (i := 128) (by decide +kernel), by decide +kernel, rfl, by decide +kernel, by decide +kernel, by decide +kernel⟩, fun _ => List.mem_of_getElem? (i := 2290) (by decide +kernel), fun h => absurd (by decide +kernel) h, fun h => by cases h, fun _ => List.mem_of_getElem? (i := 2288) (by decide +kernel), fun _ => List.mem_of_getElem? (i := 2289) (by decide +kernel), fun h => by cases h, by decide +kernel⟩
theorem mf_Mod_lengths : mj_facts 27266368 yX12_lengths cX12_lengths (some .int) 1 := ⟨⟨List.mem_of_getElem? (i := 128) (by decide +kernel), by decide +kernel, rfl, by decide +kernel, by decide +kernel, by decide +kernel⟩, fun _ => List.mem_of_getElem? (i := 2294) (by decide +kernel), fun h => absurd (by decide +kernel) h, fun h => by cases h, fun _ => List.mem_of_getElem? (i := 2292) (by decide +kernel), fun _ => List.mem_of_getElem? (i := 2293) (by decide +kernel), fun h => by cases h, by decide +kernel⟩
theorem mf_Mod_ahead : mj_facts 27400515 yX12_ahead cX12_ahead (some .int) 1 := ⟨⟨List.mem_of_getElem? (i := 128) (by decide +kernel), by decide +kernel, rfl, by decide +kernel, by decide +kernel, by decide +kernel⟩, fun _ => List.mem_of_getElem? (i := 2298) (by decide +kernel), fun h => absurd (by decide +kernel) h, fun h => by cases h, fun _ => List.mem_of_getElem? (i := 2296) (by decide +kernel), fun _ => List.mem_of_getElem? (i := 2297) (by decide +kernel), fun h => by cases h, by decide +kernel⟩
theorem mf_Mod_trial : mj_facts 27530562 yX12_trial cX12_trial (some .int) 1 := ⟨⟨List.mem_of_getElem? (i := 128) (by decide +kernel), by decide +kernel, rfl, by decide +kernel, by decide +kernel, by decide +kernel⟩, fun _ => List.mem_of_getElem? (i := 2302) (by decide +kernel), fun h => absurd (by decide +kernel) h, fun h => by cases h, fun _ => List.mem_of_getElem? (i := 2300) (by decide +kernel), fun _ => List.mem_of_getElem? (i := 2301) (by decide +kernel), fun h => by cases h, by decide +kernel⟩
theorem mf_Mod_span : mj_facts 27663682 yX12_span cX12_span (some .int) 1 := ⟨⟨List.mem_of_getElem? (i := 128) (by decide +kernel), by decide +kernel, rfl, by decide +kernel, by decide +kernel, by decide +kernel⟩, fun _ => List.mem_of_getElem? (i := 2306) (by decide +kernel), fun h => absurd (by decide +kernel) h, fun h => by cases h, fun _ => List.mem_of_getElem? (i := 2304) (by decide +kernel), fun _ => List.mem_of_getElem? (i := 2305) (by decide +kernel), fun h => by cases h, by decide +kernel⟩
theorem mf_Mod_logged : mj_facts 27790658 yX12_logged cX12_logged (some .int) 1 := ⟨⟨List.mem_of_getElem? (i := 128) (by decide +kernel), by decide +kernel, rfl, by decide +kernel, by decide +kernel, by decide +kernel⟩, fun _ => List.mem_of_getElem? (i := 2314) (by decide +kernel), fun h => absurd (by decide +kernel) h, fun h => by cases h, fun _ => List.mem_of_getElem? (i := 2313) (by decide +kernel), fun _ => List.mem_of_getElem? (i := 116) (by decide +kernel), fun h => by cases h, by decide +kernel⟩
theorem mf_Mod_led : mj_facts 27924802 yX12_led cX12_led (some .int) 1 := ⟨⟨List.mem_of_getElem? (i := 128) (by decide +kernel), by decide +kernel, rfl, by decide +kernel, by decide +kernel, by decide +kernel⟩, fun _ => List.mem_of_getElem? (i := 2310) (by decide +kernel), fun h => absurd (by decide +kernel) h, fun h => by cases h, fun _ => List.mem_of_getElem? (i := 2308) (by decide +kernel), fun _ => List.mem_of_getElem? (i := 2309) (by decide +kernel), fun h => by cases h, by decide +kernel⟩
theorem mf_Mod_log : mj_facts 28052802 yX12_log cX12_log (some .int) 1 := ⟨⟨List.mem_of_getElem? (i := 128) (by decide +kernel), by decide +kernel, rfl, by decide +kernel, by decide +kernel, by decide +kernel⟩, fun _ => List.mem_of_getElem? (i := 2318) (by decide +kernel), fun h => absurd (by decide +kernel) h, fun h => by cases h, fun _ => List.mem_of_getElem? (i := 2316) (by decide +kernel), fun _ => List.mem_of_getElem? (i := 2317) (by decide +kernel), fun h => by cases h, by decide +kernel⟩
theorem mf_Mod_seed : mj_facts 28183873 yX12_seed cX12_seed (some .int) 1 := ⟨⟨List.mem_of_getElem? (i := 128) (by decide +kernel), by decide +kernel, rfl, by decide +kernel, by decide +kernel, by decide +kernel⟩, fun _ => List.mem_of_getElem? (i := 2322) (by decide +kernel), fun h => absurd (by decide +kernel) h, fun h => by cases h, fun _ => List.mem_of_getElem? (i := 2320) (by decide +kernel), fun _ => List.mem_of_getElem? (i := 2321) (by decide +kernel), fun h => by cases h, by decide +kernel⟩
theorem mf_Mod_undo : mj_facts 28379456 yX12_undo cX12_undo (some .boolean) 1 := ⟨⟨List.mem_of_getElem? (i := 128) (by decide +kernel), by decide +kernel, rfl, by decide +kernel, by decide +kernel, by decide +kernel⟩, fun _ => List.mem_of_getElem? (i := 2326) (by decide +kernel), fun h => absurd (by decide +kernel) h, fun h => by cases h, fun _ => List.mem_of_getElem? (i := 2324) (by decide +kernel), fun _ => List.mem_of_getElem? (i := 2325) (by decide +kernel), fun h => by cases h, by decide +kernel⟩
theorem mf_Mod_image : mj_facts 28444992 yX12_image cX12_image (none) 1 := ⟨⟨List.mem_of_getElem? (i := 128) (by decide +kernel), by decide +kernel, rfl, by decide +kernel, by decide +kernel, by decide +kernel⟩, fun _ => List.mem_of_getElem? (i := 2330) (by decide +kernel), fun h => absurd (by decide +kernel) h, fun h => by cases h, fun _ => List.mem_of_getElem? (i := 2328) (by decide +kernel), fun _ => List.mem_of_getElem? (i := 2329) (by decide +kernel), fun h => by cases h, by decide +kernel⟩
theorem mf_Mod_back : mj_facts 28641600 yX12_back cX12_back (some .boolean) 1 := ⟨⟨List.mem_of_getElem? (i := 128) (by decide +kernel), by decide +kernel, rfl, by decide +kernel, by decide +kernel, by decide +kernel⟩, fun _ => List.mem_of_getElem? (i := 2334) (by decide +kernel), fun h => absurd (by decide +kernel) h, fun h => by cases h, fun _ => List.mem_of_getElem? (i := 2332) (by decide +kernel), fun _ => List.mem_of_getElem? (i := 2333) (by decide +kernel), fun h => by cases h, by decide +kernel⟩
theorem mf_Mod_count : mj_facts 28707137 yX12_count cX12_count (some .int) 1 := ⟨⟨List.mem_of_getElem? (i := 128) (by decide +kernel), by decide +kernel, rfl, by decide +kernel, by decide +kernel, by decide +kernel⟩, fun _ => List.mem_of_getElem? (i := 2338) (by decide +kernel), fun h => absurd (by decide +kernel) h, fun h => by cases h, fun _ => List.mem_of_getElem? (i := 2336) (by decide +kernel), fun _ => List.mem_of_getElem? (i := 2337) (by decide +kernel), fun h => by cases h, by decide +kernel⟩
theorem mf_Baskets_init : mj_facts 28836864 yX0_init cX0_init (none) 2 := ⟨⟨List.mem_of_getElem? (i := 123) (by decide +kernel), by decide +kernel, rfl, by decide +kernel, by decide +kernel, by decide +kernel⟩, fun _ => List.mem_of_getElem? (i := 262) (by decide +kernel), fun h => absurd (by decide +kernel) h, fun h => by cases h, fun _ => List.mem_of_getElem? (i := 261) (by decide +kernel), fun h => by cases h, fun _ => ⟨rfl, rfl⟩, by decide +kernel⟩
theorem mf_Baskets_copy : mj_facts 28968961 yX0_copy cX0_copy (none) 1 := ⟨⟨List.mem_of_getElem? (i := 123) (by decide +kernel), by decide +kernel, rfl, by decide +kernel, by decide +kernel, by decide +kernel⟩, fun _ => List.mem_of_getElem? (i := 620) (by decide +kernel), fun h => absurd (by decide +kernel) h, fun h => by cases h, fun _ => List.mem_of_getElem? (i := 618) (by decide +kernel), fun _ => List.mem_of_getElem? (i := 619) (by decide +kernel), fun h => by cases h, by decide +kernel⟩
theorem mf_Baskets_beginWeave : mj_facts 29100033 yX0_beginWeave cX0_beginWeave (none) 1 := ⟨⟨List.mem_of_getElem? (i := 123) (by decide +kernel), by decide +kernel, rfl, by decide +kernel, by decide +kernel, by decide +kernel⟩, fun _ => List.mem_of_getElem? (i := 794) (by decide +kernel), fun h => absurd (by decide +kernel) h, fun h => by cases h, fun _ => List.mem_of_getElem? (i := 792) (by decide +kernel), fun _ => List.mem_of_getElem? (i := 793) (by decide +kernel), fun h => by cases h, by decide +kernel⟩
theorem mf_Baskets_addRun : mj_facts 29233154 yX0_addRun cX0_addRun (none) 1 := ⟨⟨List.mem_of_getElem? (i := 123) (by decide +kernel), by decide +kernel, rfl, by decide +kernel, by decide +kernel, by decide +kernel⟩, fun _ => List.mem_of_getElem? (i := 802) (by decide +kernel), fun h => absurd (by decide +kernel) h, fun h => by cases h, fun _ => List.mem_of_getElem? (i := 800) (by decide +kernel), fun _ => List.mem_of_getElem? (i := 801) (by decide +kernel), fun h => by cases h, by decide +kernel⟩
theorem mf_Baskets_runOf : mj_facts 29363202 yX0_runOf cX0_runOf (some .int) 1 := ⟨⟨List.mem_of_getElem? (i := 123) (by decide +kernel), by decide +kernel, rfl, by decide +kernel, by decide +kernel, by decide +kernel⟩, fun _ => List.mem_of_getElem? (i := 1138) (by decide +kernel), fun h => absurd (by decide +kernel) h, fun h => by cases h, fun _ => List.mem_of_getElem? (i := 1136) (by decide +kernel), fun _ => List.mem_of_getElem? (i := 1137) (by decide +kernel), fun h => by cases h, by decide +kernel⟩
theorem mf_Baskets_passesOver : mj_facts 29560834 yX0_passesOver cX0_passesOver (some .boolean) 1 := ⟨⟨List.mem_of_getElem? (i := 123) (by decide +kernel), by decide +kernel, rfl, by decide +kernel, by decide +kernel, by decide +kernel⟩, fun _ => List.mem_of_getElem? (i := 1096) (by decide +kernel), fun h => absurd (by decide +kernel) h, fun h => by cases h, fun _ => List.mem_of_getElem? (i := 1094) (by decide +kernel), fun _ => List.mem_of_getElem? (i := 1095) (by decide +kernel), fun h => by cases h, by decide +kernel⟩
theorem mf_Baskets_needOf : mj_facts 29626369 yX0_needOf cX0_needOf (some .int) 1 := ⟨⟨List.mem_of_getElem? (i := 123) (by decide +kernel), by decide +kernel, rfl, by decide +kernel, by decide +kernel, by decide +kernel⟩, fun _ => List.mem_of_getElem? (i := 564) (by decide +kernel), fun h => absurd (by decide +kernel) h, fun h => by cases h, fun _ => List.mem_of_getElem? (i := 562) (by decide +kernel), fun _ => List.mem_of_getElem? (i := 563) (by decide +kernel), fun h => by cases h, by decide +kernel⟩
theorem mf_Baskets_againOf : mj_facts 29757441 yX0_againOf cX0_againOf (some .int) 1 := ⟨⟨List.mem_of_getElem? (i := 123) (by decide +kernel), by decide +kernel, rfl, by decide +kernel, by decide +kernel, by decide +kernel⟩, fun _ => List.mem_of_getElem? (i := 1088) (by decide +kernel), fun h => absurd (by decide +kernel) h, fun h => by cases h, fun _ => List.mem_of_getElem? (i := 1086) (by decide +kernel), fun _ => List.mem_of_getElem? (i := 1087) (by decide +kernel), fun h => by cases h, by decide +kernel⟩
theorem mf_Baskets_isAlikeAfter : mj_facts 29954050 yX0_isAlikeAfter cX0_isAlikeAfter (some .boolean) 1 := ⟨⟨List.mem_of_getElem? (i := 123) (by decide +kernel), by decide +kernel, rfl, by decide +kernel, by decide +kernel, by decide +kernel⟩, fun _ => List.mem_of_getElem? (i := 1092) (by decide +kernel), fun h => absurd (by decide +kernel) h, fun h => by cases h, fun _ => List.mem_of_getElem? (i := 1091) (by decide +kernel), fun _ => List.mem_of_getElem? (i := 9) (by decide +kernel), fun h => by cases h, by decide +kernel⟩
theorem mf_Baskets_looseOf : mj_facts 30020610 yX0_looseOf cX0_looseOf (some .int) 1 := ⟨⟨List.mem_of_getElem? (i := 123) (by decide +kernel), by decide +kernel, rfl, by decide +kernel, by decide +kernel, by decide +kernel⟩, fun _ => List.mem_of_getElem? (i := 1100) (by decide +kernel), fun h => absurd (by decide +kernel) h, fun h => by cases h, fun _ => List.mem_of_getElem? (i := 1098) (by decide +kernel), fun _ => List.mem_of_getElem? (i := 1099) (by decide +kernel), fun h => by cases h, by decide +kernel⟩
theorem mf_Baskets_floatOf : mj_facts 30148609 yX0_floatOf cX0_floatOf (some .int) 1 := ⟨⟨List.mem_of_getElem? (i := 123) (by decide +kernel), by decide +kernel, rfl, by decide +kernel, by decide +kernel, by decide +kernel⟩, fun _ => List.mem_of_getElem? (i := 1109) (by decide +kernel), fun h => absurd (by decide +kernel) h, fun h => by cases h, fun _ => List.mem_of_getElem? (i := 1107) (by decide +kernel), fun _ => List.mem_of_getElem? (i := 1108) (by decide +kernel), fun h => by cases h, by decide +kernel⟩
theorem mf_Baskets_dropOf : mj_facts 30281729 yX0_dropOf cX0_dropOf (some .int) 1 := ⟨⟨List.mem_of_getElem? (i := 123) (by decide +kernel), by decide +kernel, rfl, by decide +kernel, by decide +kernel, by decide +kernel⟩, fun _ => List.mem_of_getElem? (i := 1113) (by decide +kernel), fun h => absurd (by decide +kernel) h, fun h => by cases h, fun _ => List.mem_of_getElem? (i := 1111) (by decide +kernel), fun _ => List.mem_of_getElem? (i := 1112) (by decide +kernel), fun h => by cases h, by decide +kernel⟩
theorem mf_Baskets_longestAlike : mj_facts 30418948 yX0_longestAlike cX0_longestAlike (some .int) 1 := ⟨⟨List.mem_of_getElem? (i := 123) (by decide +kernel), by decide +kernel, rfl, by decide +kernel, by decide +kernel, by decide +kernel⟩, fun _ => List.mem_of_getElem? (i := 1104) (by decide +kernel), fun h => absurd (by decide +kernel) h, fun h => by cases h, fun _ => List.mem_of_getElem? (i := 1103) (by decide +kernel), fun _ => List.mem_of_getElem? (i := 10) (by decide +kernel), fun h => by cases h, by decide +kernel⟩
theorem mf_Baskets_blindOf : mj_facts 30543873 yX0_blindOf cX0_blindOf (some .int) 1 := ⟨⟨List.mem_of_getElem? (i := 123) (by decide +kernel), by decide +kernel, rfl, by decide +kernel, by decide +kernel, by decide +kernel⟩, fun _ => List.mem_of_getElem? (i := 1117) (by decide +kernel), fun h => absurd (by decide +kernel) h, fun h => by cases h, fun _ => List.mem_of_getElem? (i := 1115) (by decide +kernel), fun _ => List.mem_of_getElem? (i := 1116) (by decide +kernel), fun h => by cases h, by decide +kernel⟩
theorem mf_Baskets_isBlind : mj_facts 30741506 yX0_isBlind cX0_isBlind (some .boolean) 1 := ⟨⟨List.mem_of_getElem? (i := 123) (by decide +kernel), by decide +kernel, rfl, by decide +kernel, by decide +kernel, by decide +kernel⟩, fun _ => List.mem_of_getElem? (i := 1121) (by decide +kernel), fun h => absurd (by decide +kernel) h, fun h => by cases h, fun _ => List.mem_of_getElem? (i := 1120) (by decide +kernel), fun _ => List.mem_of_getElem? (i := 11) (by decide +kernel), fun h => by cases h, by decide +kernel⟩
theorem mf_Baskets_fitOf : mj_facts 30804993 yX0_fitOf cX0_fitOf (some .int) 1 := ⟨⟨List.mem_of_getElem? (i := 123) (by decide +kernel), by decide +kernel, rfl, by decide +kernel, by decide +kernel, by decide +kernel⟩, fun _ => List.mem_of_getElem? (i := 1125) (by decide +kernel), fun h => absurd (by decide +kernel) h, fun h => by cases h, fun _ => List.mem_of_getElem? (i := 1123) (by decide +kernel), fun _ => List.mem_of_getElem? (i := 1124) (by decide +kernel), fun h => by cases h, by decide +kernel⟩
theorem mf_Baskets_bestPrice : mj_facts 30939137 yX0_bestPrice cX0_bestPrice (some .int) 1 := ⟨⟨List.mem_of_getElem? (i := 123) (by decide +kernel), by decide +kernel, rfl, by decide +kernel, by decide +kernel, by decide +kernel⟩, fun _ => List.mem_of_getElem? (i := 1513) (by decide +kernel), fun h => absurd (by decide +kernel) h, fun h => by cases h, fun _ => List.mem_of_getElem? (i := 1511) (by decide +kernel), fun _ => List.mem_of_getElem? (i := 1512) (by decide +kernel), fun h => by cases h, by decide +kernel⟩
theorem mf_Baskets_buyersAt : mj_facts 31069186 yX0_buyersAt cX0_buyersAt (some .int) 1 := ⟨⟨List.mem_of_getElem? (i := 123) (by decide +kernel), by decide +kernel, rfl, by decide +kernel, by decide +kernel, by decide +kernel⟩, fun _ => List.mem_of_getElem? (i := 1517) (by decide +kernel), fun h => absurd (by decide +kernel) h, fun h => by cases h, fun _ => List.mem_of_getElem? (i := 1516) (by decide +kernel), fun _ => List.mem_of_getElem? (i := 25) (by decide +kernel), fun h => by cases h, by decide +kernel⟩
theorem mf_Beds_init : mj_facts 31196192 yX1_init cX1_init (none) 2 := ⟨⟨List.mem_of_getElem? (i := 122) (by decide +kernel), by decide +kernel, rfl, by decide +kernel, by decide +kernel, by decide +kernel⟩, fun _ => List.mem_of_getElem? (i := 227) (by decide +kernel), fun h => absurd (by decide +kernel) h, fun h => by cases h, fun _ => List.mem_of_getElem? (i := 226) (by decide +kernel), fun h => by cases h, fun _ => ⟨rfl, rfl⟩, by decide +kernel⟩
theorem mf_Beds_copy : mj_facts 31328289 yX1_copy cX1_copy (none) 1 := ⟨⟨List.mem_of_getElem? (i := 122) (by decide +kernel), by decide +kernel, rfl, by decide +kernel, by decide +kernel, by decide +kernel⟩, fun _ => List.mem_of_getElem? (i := 613) (by decide +kernel), fun h => absurd (by decide +kernel) h, fun h => by cases h, fun _ => List.mem_of_getElem? (i := 611) (by decide +kernel), fun _ => List.mem_of_getElem? (i := 612) (by decide +kernel), fun h => by cases h, by decide +kernel⟩
theorem mf_Beds_add : mj_facts 31462436 yX1_add cX1_add (none) 1 := ⟨⟨List.mem_of_getElem? (i := 122) (by decide +kernel), by decide +kernel, rfl, by decide +kernel, by decide +kernel, by decide +kernel⟩, fun _ => List.mem_of_getElem? (i := 783) (by decide +kernel), fun h => absurd (by decide +kernel) h, fun h => by cases h, fun _ => List.mem_of_getElem? (i := 781) (by decide +kernel), fun _ => List.mem_of_getElem? (i := 782) (by decide +kernel), fun h => by cases h, by decide +kernel⟩
theorem mf_Beds_grow : mj_facts 31591457 yX1_grow cX1_grow (none) 1 := ⟨⟨List.mem_of_getElem? (i := 122) (by decide +kernel), by decide +kernel, rfl, by decide +kernel, by decide +kernel, by decide +kernel⟩, fun _ => List.mem_of_getElem? (i := 1229) (by decide +kernel), fun h => absurd (by decide +kernel) h, fun h => by cases h, fun _ => List.mem_of_getElem? (i := 1227) (by decide +kernel), fun _ => List.mem_of_getElem? (i := 1228) (by decide +kernel), fun h => by cases h, by decide +kernel⟩
theorem mf_Beds_stoolsAhead : mj_facts 31724578 yX1_stoolsAhead cX1_stoolsAhead (some .int) 1 := ⟨⟨List.mem_of_getElem? (i := 122) (by decide +kernel), by decide +kernel, rfl, by decide +kernel, by decide +kernel, by decide +kernel⟩, fun _ => List.mem_of_getElem? (i := 1573) (by decide +kernel), fun h => absurd (by decide +kernel) h, fun h => by cases h, fun _ => List.mem_of_getElem? (i := 1571) (by decide +kernel), fun _ => List.mem_of_getElem? (i := 1572) (by decide +kernel), fun h => by cases h, by decide +kernel⟩
theorem mf_Beds_partOf : mj_facts 31854625 yX1_partOf cX1_partOf (some .int) 1 := ⟨⟨List.mem_of_getElem? (i := 122) (by decide +kernel), by decide +kernel, rfl, by decide +kernel, by decide +kernel, by decide +kernel⟩, fun _ => List.mem_of_getElem? (i := 1056) (by decide +kernel), fun h => absurd (by decide +kernel) h, fun h => by cases h, fun _ => List.mem_of_getElem? (i := 1054) (by decide +kernel), fun _ => List.mem_of_getElem? (i := 1055) (by decide +kernel), fun h => by cases h, by decide +kernel⟩
theorem mf_Beds_feetCut : mj_facts 31988771 yX1_feetCut cX1_feetCut (some .int) 1 := ⟨⟨List.mem_of_getElem? (i := 122) (by decide +kernel), by decide +kernel, rfl, by decide +kernel, by decide +kernel, by decide +kernel⟩, fun _ => List.mem_of_getElem? (i := 1362) (by decide +kernel), fun h => absurd (by decide +kernel) h, fun h => by cases h, fun _ => List.mem_of_getElem? (i := 1360) (by decide +kernel), fun _ => List.mem_of_getElem? (i := 1361) (by decide +kernel), fun h => by cases h, by decide +kernel⟩
theorem mf_Beds_bestCuts : mj_facts 32118818 yX1_bestCuts cX1_bestCuts (some .int) 1 := ⟨⟨List.mem_of_getElem? (i := 122) (by decide +kernel), by decide +kernel, rfl, by decide +kernel, by decide +kernel, by decide +kernel⟩, fun _ => List.mem_of_getElem? (i := 1358) (by decide +kernel), fun h => absurd (by decide +kernel) h, fun h => by cases h, fun _ => List.mem_of_getElem? (i := 1356) (by decide +kernel), fun _ => List.mem_of_getElem? (i := 1357) (by decide +kernel), fun h => by cases h, by decide +kernel⟩
theorem mf_Beds_twinPairs : mj_facts 32247840 yX1_twinPairs cX1_twinPairs (some .int) 1 := ⟨⟨List.mem_of_getElem? (i := 122) (by decide +kernel), by decide +kernel, rfl, by decide +kernel, by decide +kernel, by decide +kernel⟩, fun _ => List.mem_of_getElem? (i := 593) (by decide +kernel), fun h => absurd (by decide +kernel) h, fun h => by cases h, fun _ => List.mem_of_getElem? (i := 591) (by decide +kernel), fun _ => List.mem_of_getElem? (i := 592) (by decide +kernel), fun h => by cases h, by decide +kernel⟩
theorem mf_Beds_ofSort : mj_facts 32378913 yX1_ofSort cX1_ofSort (some .int) 1 := ⟨⟨List.mem_of_getElem? (i := 122) (by decide +kernel), by decide +kernel, rfl, by decide +kernel, by decide +kernel, by decide +kernel⟩, fun _ => List.mem_of_getElem? (i := 1562) (by decide +kernel), fun h => absurd (by decide +kernel) h, fun h => by cases h, fun _ => List.mem_of_getElem? (i := 1560) (by decide +kernel), fun _ => List.mem_of_getElem? (i := 1561) (by decide +kernel), fun h => by cases h, by decide +kernel⟩
theorem mf_Hands_init : mj_facts 32506944 yX2_init cX2_init (none) 2 := ⟨⟨List.mem_of_getElem? (i := 124) (by decide +kernel), by decide +kernel, rfl, by decide +kernel, by decide +kernel, by decide +kernel⟩, fun _ => List.mem_of_getElem? (i := 313) (by decide +kernel), fun h => absurd (by decide +kernel) h, fun h => by cases h, fun _ => List.mem_of_getElem? (i := 312) (by decide +kernel), fun h => by cases h, fun _ => ⟨rfl, rfl⟩, by decide +kernel⟩
theorem mf_Hands_copy : mj_facts 32639041 yX2_copy cX2_copy (none) 1 := ⟨⟨List.mem_of_getElem? (i := 124) (by decide +kernel), by decide +kernel, rfl, by decide +kernel, by decide +kernel, by decide +kernel⟩, fun _ => List.mem_of_getElem? (i := 625) (by decide +kernel), fun h => absurd (by decide +kernel) h, fun h => by cases h, fun _ => List.mem_of_getElem? (i := 623) (by decide +kernel), fun _ => List.mem_of_getElem? (i := 624) (by decide +kernel), fun h => by cases h, by decide +kernel⟩
theorem mf_Hands_add : mj_facts 32771138 yX2_add cX2_add (none) 1 := ⟨⟨List.mem_of_getElem? (i := 124) (by decide +kernel), by decide +kernel, rfl, by decide +kernel, by decide +kernel, by decide +kernel⟩, fun _ => List.mem_of_getElem? (i := 814) (by decide +kernel), fun h => absurd (by decide +kernel) h, fun h => by cases h, fun _ => List.mem_of_getElem? (i := 812) (by decide +kernel), fun _ => List.mem_of_getElem? (i := 813) (by decide +kernel), fun h => by cases h, by decide +kernel⟩
theorem mf_Holt_init : mj_facts 32900192 yX3_init cX3_init (none) 2 := ⟨⟨List.mem_of_getElem? (i := 121) (by decide +kernel), by decide +kernel, rfl, by decide +kernel, by decide +kernel, by decide +kernel⟩, fun _ => List.mem_of_getElem? (i := 221) (by decide +kernel), fun h => absurd (by decide +kernel) h, fun h => by cases h, fun _ => List.mem_of_getElem? (i := 220) (by decide +kernel), fun h => by cases h, fun _ => ⟨rfl, rfl⟩, by decide +kernel⟩
theorem mf_Holt_copy : mj_facts 33032289 yX3_copy cX3_copy (none) 1 := ⟨⟨List.mem_of_getElem? (i := 121) (by decide +kernel), by decide +kernel, rfl, by decide +kernel, by decide +kernel, by decide +kernel⟩, fun _ => List.mem_of_getElem? (i := 609) (by decide +kernel), fun h => absurd (by decide +kernel) h, fun h => by cases h, fun _ => List.mem_of_getElem? (i := 607) (by decide +kernel), fun _ => List.mem_of_getElem? (i := 608) (by decide +kernel), fun h => by cases h, by decide +kernel⟩
theorem mf_Holt_earn : mj_facts 33163361 yX3_earn cX3_earn (none) 1 := ⟨⟨List.mem_of_getElem? (i := 121) (by decide +kernel), by decide +kernel, rfl, by decide +kernel, by decide +kernel, by decide +kernel⟩, fun _ => List.mem_of_getElem? (i := 1247) (by decide +kernel), fun h => absurd (by decide +kernel) h, fun h => by cases h, fun _ => List.mem_of_getElem? (i := 1245) (by decide +kernel), fun _ => List.mem_of_getElem? (i := 1246) (by decide +kernel), fun h => by cases h, by decide +kernel⟩
theorem mf_Holt_passYears : mj_facts 33296481 yX3_passYears cX3_passYears (some .int) 1 := ⟨⟨List.mem_of_getElem? (i := 121) (by decide +kernel), by decide +kernel, rfl, by decide +kernel, by decide +kernel, by decide +kernel⟩, fun _ => List.mem_of_getElem? (i := 1216) (by decide +kernel), fun h => absurd (by decide +kernel) h, fun h => by cases h, fun _ => List.mem_of_getElem? (i := 1214) (by decide +kernel), fun _ => List.mem_of_getElem? (i := 1215) (by decide +kernel), fun h => by cases h, by decide +kernel⟩
theorem mf_Holt_passYear : mj_facts 33425504 yX3_passYear cX3_passYear (some .int) 1 := ⟨⟨List.mem_of_getElem? (i := 121) (by decide +kernel), by decide +kernel, rfl, by decide +kernel, by decide +kernel, by decide +kernel⟩, fun _ => List.mem_of_getElem? (i := 1220) (by decide +kernel), fun h => absurd (by decide +kernel) h, fun h => by cases h, fun _ => List.mem_of_getElem? (i := 1219) (by decide +kernel), fun _ => List.mem_of_getElem? (i := 15) (by decide +kernel), fun h => by cases h, by decide +kernel⟩
theorem mf_Holt_draw : mj_facts 33555552 yX3_draw cX3_draw (some .int) 1 := ⟨⟨List.mem_of_getElem? (i := 121) (by decide +kernel), by decide +kernel, rfl, by decide +kernel, by decide +kernel, by decide +kernel⟩, fun _ => List.mem_of_getElem? (i := 1224) (by decide +kernel), fun h => absurd (by decide +kernel) h, fun h => by cases h, fun _ => List.mem_of_getElem? (i := 1223) (by decide +kernel), fun _ => List.mem_of_getElem? (i := 16) (by decide +kernel), fun h => by cases h, by decide +kernel⟩
theorem mf_Holt_payHands : mj_facts 33688672 yX3_payHands cX3_payHands (some .int) 1 := ⟨⟨List.mem_of_getElem? (i := 121) (by decide +kernel), by decide +kernel, rfl, by decide +kernel, by decide +kernel, by decide +kernel⟩, fun _ => List.mem_of_getElem? (i := 1235) (by decide +kernel), fun h => absurd (by decide +kernel) h, fun h => by cases h, fun _ => List.mem_of_getElem? (i := 1234) (by decide +kernel), fun _ => List.mem_of_getElem? (i := 17) (by decide +kernel), fun h => by cases h, by decide +kernel⟩
theorem mf_Holt_makeOrders : mj_facts 33820769 yX3_makeOrders cX3_makeOrders (some .int) 1 := ⟨⟨List.mem_of_getElem? (i := 121) (by decide +kernel), by decide +kernel, rfl, by decide +kernel, by decide +kernel, by decide +kernel⟩, fun _ => List.mem_of_getElem? (i := 1239) (by decide +kernel), fun h => absurd (by decide +kernel) h, fun h => by cases h, fun _ => List.mem_of_getElem? (i := 1238) (by decide +kernel), fun _ => List.mem_of_getElem? (i := 18) (by decide +kernel), fun h => by cases h, by decide +kernel⟩
theorem mf_Holt_rodsFor : mj_facts 33949793 yX3_rodsFor cX3_rodsFor (some .int) 1 := ⟨⟨List.mem_of_getElem? (i := 121) (by decide +kernel), by decide +kernel, rfl, by decide +kernel, by decide +kernel, by decide +kernel⟩, fun _ => List.mem_of_getElem? (i := 560) (by decide +kernel), fun h => absurd (by decide +kernel) h, fun h => by cases h, fun _ => List.mem_of_getElem? (i := 558) (by decide +kernel), fun _ => List.mem_of_getElem? (i := 559) (by decide +kernel), fun h => by cases h, by decide +kernel⟩
theorem mf_Holt_feetFor : mj_facts 34080865 yX3_feetFor cX3_feetFor (some .int) 1 := ⟨⟨List.mem_of_getElem? (i := 121) (by decide +kernel), by decide +kernel, rfl, by decide +kernel, by decide +kernel, by decide +kernel⟩, fun _ => List.mem_of_getElem? (i := 556) (by decide +kernel), fun h => absurd (by decide +kernel) h, fun h => by cases h, fun _ => List.mem_of_getElem? (i := 554) (by decide +kernel), fun _ => List.mem_of_getElem? (i := 555) (by decide +kernel), fun h => by cases h, by decide +kernel⟩
theorem mf_Holt_payFor : mj_facts 34211937 yX3_payFor cX3_payFor (some .int) 1 := ⟨⟨List.mem_of_getElem? (i := 121) (by decide +kernel), by decide +kernel, rfl, by decide +kernel, by decide +kernel, by decide +kernel⟩, fun _ => List.mem_of_getElem? (i := 542) (by decide +kernel), fun h => absurd (by decide +kernel) h, fun h => by cases h, fun _ => List.mem_of_getElem? (i := 541) (by decide +kernel), fun _ => List.mem_of_getElem? (i := 0) (by decide +kernel), fun h => by cases h, by decide +kernel⟩
theorem mf_Holt_canMake : mj_facts 34408545 yX3_canMake cX3_canMake (some .boolean) 1 := ⟨⟨List.mem_of_getElem? (i := 121) (by decide +kernel), by decide +kernel, rfl, by decide +kernel, by decide +kernel, by decide +kernel⟩, fun _ => List.mem_of_getElem? (i := 581) (by decide +kernel), fun h => absurd (by decide +kernel) h, fun h => by cases h, fun _ => List.mem_of_getElem? (i := 579) (by decide +kernel), fun _ => List.mem_of_getElem? (i := 580) (by decide +kernel), fun h => by cases h, by decide +kernel⟩
theorem mf_Holt_makeUp : mj_facts 34476130 yX3_makeUp cX3_makeUp (none) 1 := ⟨⟨List.mem_of_getElem? (i := 121) (by decide +kernel), by decide +kernel, rfl, by decide +kernel, by decide +kernel, by decide +kernel⟩, fun _ => List.mem_of_getElem? (i := 1243) (by decide +kernel), fun h => absurd (by decide +kernel) h, fun h => by cases h, fun _ => List.mem_of_getElem? (i := 1241) (by decide +kernel), fun _ => List.mem_of_getElem? (i := 1242) (by decide +kernel), fun h => by cases h, by decide +kernel⟩
theorem mf_Holt_canMakeBits : mj_facts 34606176 yX3_canMakeBits cX3_canMakeBits (some .int) 1 := ⟨⟨List.mem_of_getElem? (i := 121) (by decide +kernel), by decide +kernel, rfl, by decide +kernel, by decide +kernel, by decide +kernel⟩, fun _ => List.mem_of_getElem? (i := 577) (by decide +kernel), fun h => absurd (by decide +kernel) h, fun h => by cases h, fun _ => List.mem_of_getElem? (i := 575) (by decide +kernel), fun _ => List.mem_of_getElem? (i := 576) (by decide +kernel), fun h => by cases h, by decide +kernel⟩
theorem mf_Holt_bestFills : mj_facts 34739296 yX3_bestFills cX3_bestFills (some .int) 1 := ⟨⟨List.mem_of_getElem? (i := 121) (by decide +kernel), by decide +kernel, rfl, by decide +kernel, by decide +kernel, by decide +kernel⟩, fun _ => List.mem_of_getElem? (i := 534) (by decide +kernel), fun h => absurd (by decide +kernel) h, fun h => by cases h, fun _ => List.mem_of_getElem? (i := 532) (by decide +kernel), fun _ => List.mem_of_getElem? (i := 533) (by decide +kernel), fun h => by cases h, by decide +kernel⟩
theorem mf_Holt_payOf : mj_facts 34869345 yX3_payOf cX3_payOf (some .int) 1 := ⟨⟨List.mem_of_getElem? (i := 121) (by decide +kernel), by decide +kernel, rfl, by decide +kernel, by decide +kernel, by decide +kernel⟩, fun _ => List.mem_of_getElem? (i := 538) (by decide +kernel), fun h => absurd (by decide +kernel) h, fun h => by cases h, fun _ => List.mem_of_getElem? (i := 536) (by decide +kernel), fun _ => List.mem_of_getElem? (i := 537) (by decide +kernel), fun h => by cases h, by decide +kernel⟩
theorem mf_Holt_canFill : mj_facts 35066977 yX3_canFill cX3_canFill (some .boolean) 1 := ⟨⟨List.mem_of_getElem? (i := 121) (by decide +kernel), by decide +kernel, rfl, by decide +kernel, by decide +kernel, by decide +kernel⟩, fun _ => List.mem_of_getElem? (i := 552) (by decide +kernel), fun h => absurd (by decide +kernel) h, fun h => by cases h, fun _ => List.mem_of_getElem? (i := 551) (by decide +kernel), fun _ => List.mem_of_getElem? (i := 1) (by decide +kernel), fun h => by cases h, by decide +kernel⟩
theorem mf_HoltText_read : mj_facts 35196258 yX4_read cX4_read (some .boolean) 0 := ⟨⟨List.mem_of_getElem? (i := 130) (by decide +kernel), by decide +kernel, rfl, by decide +kernel, by decide +kernel, by decide +kernel⟩, fun _ => List.mem_of_getElem? (i := 666) (by decide +kernel), fun h => absurd (by decide +kernel) h, fun _ => List.mem_of_getElem? (i := 665) (by decide +kernel), fun h => absurd rfl h, fun h => by cases h, fun h => by cases h, by decide +kernel⟩
theorem mf_HoltText_readLine : mj_facts 35261794 yX4_readLine cX4_readLine (none) 0 := ⟨⟨List.mem_of_getElem? (i := 130) (by decide +kernel), by decide +kernel, rfl, by decide +kernel, by decide +kernel, by decide +kernel⟩, fun _ => List.mem_of_getElem? (i := 697) (by decide +kernel), fun h => absurd (by decide +kernel) h, fun _ => List.mem_of_getElem? (i := 696) (by decide +kernel), fun h => absurd rfl h, fun h => by cases h, fun h => by cases h, by decide +kernel⟩
theorem mf_HoltText_readBed : mj_facts 35395938 yX4_readBed cX4_readBed (none) 0 := ⟨⟨List.mem_of_getElem? (i := 130) (by decide +kernel), by decide +kernel, rfl, by decide +kernel, by decide +kernel, by decide +kernel⟩, fun _ => List.mem_of_getElem? (i := 753) (by decide +kernel), fun h => absurd (by decide +kernel) h, fun _ => List.mem_of_getElem? (i := 752) (by decide +kernel), fun h => absurd rfl h, fun h => by cases h, fun h => by cases h, by decide +kernel⟩
theorem mf_HoltText_readSort : mj_facts 35521889 yX4_readSort cX4_readSort (some .int) 0 := ⟨⟨List.mem_of_getElem? (i := 130) (by decide +kernel), by decide +kernel, rfl, by decide +kernel, by decide +kernel, by decide +kernel⟩, fun _ => List.mem_of_getElem? (i := 765) (by decide +kernel), fun h => absurd (by decide +kernel) h, fun _ => List.mem_of_getElem? (i := 764) (by decide +kernel), fun h => absurd rfl h, fun h => by cases h, fun h => by cases h, by decide +kernel⟩
theorem mf_HoltText_readBasket : mj_facts 35656034 yX4_readBasket cX4_readBasket (none) 0 := ⟨⟨List.mem_of_getElem? (i := 130) (by decide +kernel), by decide +kernel, rfl, by decide +kernel, by decide +kernel, by decide +kernel⟩, fun _ => List.mem_of_getElem? (i := 787) (by decide +kernel), fun h => absurd (by decide +kernel) h, fun _ => List.mem_of_getElem? (i := 786) (by decide +kernel), fun h => absurd rfl h, fun h => by cases h, fun h => by cases h, by decide +kernel⟩
theorem mf_HoltText_readHand : mj_facts 35787106 yX4_readHand cX4_readHand (none) 0 := ⟨⟨List.mem_of_getElem? (i := 130) (by decide +kernel), by decide +kernel, rfl, by decide +kernel, by decide +kernel, by decide +kernel⟩, fun _ => List.mem_of_getElem? (i := 808) (by decide +kernel), fun h => absurd (by decide +kernel) h, fun _ => List.mem_of_getElem? (i := 807) (by decide +kernel), fun h => absurd rfl h, fun h => by cases h, fun h => by cases h, by decide +kernel⟩
theorem mf_HoltText_readOrder : mj_facts 35918178 yX4_readOrder cX4_readOrder (none) 0 := ⟨⟨List.mem_of_getElem? (i := 130) (by decide +kernel), by decide +kernel, rfl, by decide +kernel, by decide +kernel, by decide +kernel⟩, fun _ => List.mem_of_getElem? (i := 818) (by decide +kernel), fun h => absurd (by decide +kernel) h, fun _ => List.mem_of_getElem? (i := 817) (by decide +kernel), fun h => absurd rfl h, fun h => by cases h, fun h => by cases h, by decide +kernel⟩
theorem mf_Law_init : mj_facts 36045952 yX5_init cX5_init (none) 2 := ⟨⟨List.mem_of_getElem? (i := 127) (by decide +kernel), by decide +kernel, rfl, by decide +kernel, by decide +kernel, by decide +kernel⟩, fun _ => List.mem_of_getElem? (i := 448) (by decide +kernel), fun h => absurd (by decide +kernel) h, fun h => by cases h, fun _ => List.mem_of_getElem? (i := 447) (by decide +kernel), fun h => by cases h, fun _ => ⟨rfl, rfl⟩, by decide +kernel⟩
theorem mf_Law_clear : mj_facts 36177024 yX5_clear cX5_clear (none) 1 := ⟨⟨List.mem_of_getElem? (i := 127) (by decide +kernel), by decide +kernel, rfl, by decide +kernel, by decide +kernel, by decide +kernel⟩, fun _ => List.mem_of_getElem? (i := 930) (by decide +kernel), fun h => absurd (by decide +kernel) h, fun h => by cases h, fun _ => List.mem_of_getElem? (i := 928) (by decide +kernel), fun _ => List.mem_of_getElem? (i := 929) (by decide +kernel), fun h => by cases h, by decide +kernel⟩
theorem mf_Law_copy : mj_facts 36309121 yX5_copy cX5_copy (none) 1 := ⟨⟨List.mem_of_getElem? (i := 127) (by decide +kernel), by decide +kernel, rfl, by decide +kernel, by decide +kernel, by decide +kernel⟩, fun _ => List.mem_of_getElem? (i := 645) (by decide +kernel), fun h => absurd (by decide +kernel) h, fun h => by cases h, fun _ => List.mem_of_getElem? (i := 643) (by decide +kernel), fun _ => List.mem_of_getElem? (i := 644) (by decide +kernel), fun h => by cases h, by decide +kernel⟩
theorem mf_Law_emit : mj_facts 36440193 yX5_emit cX5_emit (none) 1 := ⟨⟨List.mem_of_getElem? (i := 127) (by decide +kernel), by decide +kernel, rfl, by decide +kernel, by decide +kernel, by decide +kernel⟩, fun _ => List.mem_of_getElem? (i := 955) (by decide +kernel), fun h => absurd (by decide +kernel) h, fun h => by cases h, fun _ => List.mem_of_getElem? (i := 953) (by decide +kernel), fun _ => List.mem_of_getElem? (i := 954) (by decide +kernel), fun h => by cases h, by decide +kernel⟩
theorem mf_Law_endLine : mj_facts 36572290 yX5_endLine cX5_endLine (none) 1 := ⟨⟨List.mem_of_getElem? (i := 127) (by decide +kernel), by decide +kernel, rfl, by decide +kernel, by decide +kernel, by decide +kernel⟩, fun _ => List.mem_of_getElem? (i := 982) (by decide +kernel), fun h => absurd (by decide +kernel) h, fun h => by cases h, fun _ => List.mem_of_getElem? (i := 980) (by decide +kernel), fun _ => List.mem_of_getElem? (i := 981) (by decide +kernel), fun h => by cases h, by decide +kernel⟩
theorem mf_Law_reachOf : mj_facts 36704386 yX5_reachOf cX5_reachOf (some .int) 1 := ⟨⟨List.mem_of_getElem? (i := 127) (by decide +kernel), by decide +kernel, rfl, by decide +kernel, by decide +kernel, by decide +kernel⟩, fun _ => List.mem_of_getElem? (i := 1019) (by decide +kernel), fun h => absurd (by decide +kernel) h, fun h => by cases h, fun _ => List.mem_of_getElem? (i := 1017) (by decide +kernel), fun _ => List.mem_of_getElem? (i := 1018) (by decide +kernel), fun h => by cases h, by decide +kernel⟩
theorem mf_Law_yieldOf : mj_facts 36834434 yX5_yieldOf cX5_yieldOf (some .int) 1 := ⟨⟨List.mem_of_getElem? (i := 127) (by decide +kernel), by decide +kernel, rfl, by decide +kernel, by decide +kernel, by decide +kernel⟩, fun _ => List.mem_of_getElem? (i := 1047) (by decide +kernel), fun h => absurd (by decide +kernel) h, fun h => by cases h, fun _ => List.mem_of_getElem? (i := 1045) (by decide +kernel), fun _ => List.mem_of_getElem? (i := 1046) (by decide +kernel), fun h => by cases h, by decide +kernel⟩
theorem mf_Law_costOf : mj_facts 36965506 yX5_costOf cX5_costOf (some .int) 1 := ⟨⟨List.mem_of_getElem? (i := 127) (by decide +kernel), by decide +kernel, rfl, by decide +kernel, by decide +kernel, by decide +kernel⟩, fun _ => List.mem_of_getElem? (i := 1052) (by decide +kernel), fun h => absurd (by decide +kernel) h, fun h => by cases h, fun _ => List.mem_of_getElem? (i := 1050) (by decide +kernel), fun _ => List.mem_of_getElem? (i := 1051) (by decide +kernel), fun h => by cases h, by decide +kernel⟩
theorem mf_Law_sumOf : mj_facts 37099651 yX5_sumOf cX5_sumOf (some .int) 1 := ⟨⟨List.mem_of_getElem? (i := 127) (by decide +kernel), by decide +kernel, rfl, by decide +kernel, by decide +kernel, by decide +kernel⟩, fun _ => List.mem_of_getElem? (i := 1023) (by decide +kernel), fun h => absurd (by decide +kernel) h, fun h => by cases h, fun _ => List.mem_of_getElem? (i := 1022) (by decide +kernel), fun _ => List.mem_of_getElem? (i := 5) (by decide +kernel), fun h => by cases h, by decide +kernel⟩
theorem mf_Law_holds : mj_facts 37298307 yX5_holds cX5_holds (some .boolean) 1 := ⟨⟨List.mem_of_getElem? (i := 127) (by decide +kernel), by decide +kernel, rfl, by decide +kernel, by decide +kernel, by decide +kernel⟩, fun _ => List.mem_of_getElem? (i := 1027) (by decide +kernel), fun h => absurd (by decide +kernel) h, fun h => by cases h, fun _ => List.mem_of_getElem? (i := 1026) (by decide +kernel), fun _ => List.mem_of_getElem? (i := 6) (by decide +kernel), fun h => by cases h, by decide +kernel⟩
theorem mf_Law_reckon : mj_facts 37360772 yX5_reckon cX5_reckon (some .int) 1 := ⟨⟨List.mem_of_getElem? (i := 127) (by decide +kernel), by decide +kernel, rfl, by decide +kernel, by decide +kernel, by decide +kernel⟩, fun _ => List.mem_of_getElem? (i := 1031) (by decide +kernel), fun h => absurd (by decide +kernel) h, fun h => by cases h, fun _ => List.mem_of_getElem? (i := 1030) (by decide +kernel), fun _ => List.mem_of_getElem? (i := 7) (by decide +kernel), fun h => by cases h, by decide +kernel⟩
theorem mf_Law_valueOf : mj_facts 37489795 yX5_valueOf cX5_valueOf (some .int) 0 := ⟨⟨List.mem_of_getElem? (i := 127) (by decide +kernel), by decide +kernel, rfl, by decide +kernel, by decide +kernel, by decide +kernel⟩, fun _ => List.mem_of_getElem? (i := 1034) (by decide +kernel), fun h => absurd (by decide +kernel) h, fun _ => List.mem_of_getElem? (i := 1033) (by decide +kernel), fun h => absurd rfl h, fun h => by cases h, fun h => by cases h, by decide +kernel⟩
theorem mf_Law_joined : mj_facts 37620867 yX5_joined cX5_joined (some .int) 0 := ⟨⟨List.mem_of_getElem? (i := 127) (by decide +kernel), by decide +kernel, rfl, by decide +kernel, by decide +kernel, by decide +kernel⟩, fun _ => List.mem_of_getElem? (i := 1037) (by decide +kernel), fun h => absurd (by decide +kernel) h, fun _ => List.mem_of_getElem? (i := 1036) (by decide +kernel), fun h => absurd rfl h, fun h => by cases h, fun h => by cases h, by decide +kernel⟩
theorem mf_LawText_read : mj_facts 37819778 yX6_read cX6_read (some .boolean) 0 := ⟨⟨List.mem_of_getElem? (i := 140) (by decide +kernel), by decide +kernel, rfl, by decide +kernel, by decide +kernel, by decide +kernel⟩, fun _ => List.mem_of_getElem? (i := 925) (by decide +kernel), fun h => absurd (by decide +kernel) h, fun _ => List.mem_of_getElem? (i := 924) (by decide +kernel), fun h => absurd rfl h, fun h => by cases h, fun h => by cases h, by decide +kernel⟩
theorem mf_LawText_readKind : mj_facts 37881217 yX6_readKind cX6_readKind (some .int) 0 := ⟨⟨List.mem_of_getElem? (i := 140) (by decide +kernel), by decide +kernel, rfl, by decide +kernel, by decide +kernel, by decide +kernel⟩, fun _ => List.mem_of_getElem? (i := 934) (by decide +kernel), fun h => absurd (by decide +kernel) h, fun _ => List.mem_of_getElem? (i := 933) (by decide +kernel), fun h => absurd rfl h, fun h => by cases h, fun h => by cases h, by decide +kernel⟩
theorem mf_LawText_readAny : mj_facts 38015363 yX6_readAny cX6_readAny (none) 0 := ⟨⟨List.mem_of_getElem? (i := 140) (by decide +kernel), by decide +kernel, rfl, by decide +kernel, by decide +kernel, by decide +kernel⟩, fun _ => List.mem_of_getElem? (i := 944) (by decide +kernel), fun h => absurd (by decide +kernel) h, fun _ => List.mem_of_getElem? (i := 943) (by decide +kernel), fun h => absurd rfl h, fun h => by cases h, fun h => by cases h, by decide +kernel⟩
theorem mf_LawText_readAll : mj_facts 38146435 yX6_readAll cX6_readAll (none) 0 := ⟨⟨List.mem_of_getElem? (i := 140) (by decide +kernel), by decide +kernel, rfl, by decide +kernel, by decide +kernel, by decide +kernel⟩, fun _ => List.mem_of_getElem? (i := 947) (by decide +kernel), fun h => absurd (by decide +kernel) h, fun _ => List.mem_of_getElem? (i := 946) (by decide +kernel), fun h => absurd rfl h, fun h => by cases h, fun h => by cases h, by decide +kernel⟩
theorem mf_LawText_readAtom : mj_facts 38276483 yX6_readAtom cX6_readAtom (none) 0 := ⟨⟨List.mem_of_getElem? (i := 140) (by decide +kernel), by decide +kernel, rfl, by decide +kernel, by decide +kernel, by decide +kernel⟩, fun _ => List.mem_of_getElem? (i := 950) (by decide +kernel), fun h => absurd (by decide +kernel) h, fun _ => List.mem_of_getElem? (i := 949) (by decide +kernel), fun h => absurd rfl h, fun h => by cases h, fun h => by cases h, by decide +kernel⟩
theorem mf_LawText_readComparison : mj_facts 38406530 yX6_readComparison cX6_readComparison (none) 0 := ⟨⟨List.mem_of_getElem? (i := 140) (by decide +kernel), by decide +kernel, rfl, by decide +kernel, by decide +kernel, by decide +kernel⟩, fun _ => List.mem_of_getElem? (i := 963) (by decide +kernel), fun h => absurd (by decide +kernel) h, fun _ => List.mem_of_getElem? (i := 962) (by decide +kernel), fun h => absurd rfl h, fun h => by cases h, fun h => by cases h, by decide +kernel⟩
theorem mf_LawText_readSum : mj_facts 38538626 yX6_readSum cX6_readSum (none) 0 := ⟨⟨List.mem_of_getElem? (i := 140) (by decide +kernel), by decide +kernel, rfl, by decide +kernel, by decide +kernel, by decide +kernel⟩, fun _ => List.mem_of_getElem? (i := 966) (by decide +kernel), fun h => absurd (by decide +kernel) h, fun _ => List.mem_of_getElem? (i := 965) (by decide +kernel), fun h => absurd rfl h, fun h => by cases h, fun h => by cases h, by decide +kernel⟩
theorem mf_LawText_readPart : mj_facts 38667649 yX6_readPart cX6_readPart (some .int) 0 := ⟨⟨List.mem_of_getElem? (i := 140) (by decide +kernel), by decide +kernel, rfl, by decide +kernel, by decide +kernel, by decide +kernel⟩, fun _ => List.mem_of_getElem? (i := 969) (by decide +kernel), fun h => absurd (by decide +kernel) h, fun _ => List.mem_of_getElem? (i := 968) (by decide +kernel), fun h => absurd rfl h, fun h => by cases h, fun h => by cases h, by decide +kernel⟩
theorem mf_Log_init : mj_facts 38798496 yX7_init cX7_init (none) 2 := ⟨⟨List.mem_of_getElem? (i := 126) (by decide +kernel), by decide +kernel, rfl, by decide +kernel, by decide +kernel, by decide +kernel⟩, fun _ => List.mem_of_getElem? (i := 369) (by decide +kernel), fun h => absurd (by decide +kernel) h, fun h => by cases h, fun _ => List.mem_of_getElem? (i := 368) (by decide +kernel), fun h => by cases h, fun _ => ⟨rfl, rfl⟩, by decide +kernel⟩
theorem mf_Log_copy : mj_facts 38930593 yX7_copy cX7_copy (none) 1 := ⟨⟨List.mem_of_getElem? (i := 126) (by decide +kernel), by decide +kernel, rfl, by decide +kernel, by decide +kernel, by decide +kernel⟩, fun _ => List.mem_of_getElem? (i := 635) (by decide +kernel), fun h => absurd (by decide +kernel) h, fun h => by cases h, fun _ => List.mem_of_getElem? (i := 633) (by decide +kernel), fun _ => List.mem_of_getElem? (i := 634) (by decide +kernel), fun h => by cases h, by decide +kernel⟩
theorem mf_Log_add : mj_facts 39065764 yX7_add cX7_add (none) 1 := ⟨⟨List.mem_of_getElem? (i := 126) (by decide +kernel), by decide +kernel, rfl, by decide +kernel, by decide +kernel, by decide +kernel⟩, fun _ => List.mem_of_getElem? (i := 1256) (by decide +kernel), fun h => absurd (by decide +kernel) h, fun h => by cases h, fun _ => List.mem_of_getElem? (i := 1254) (by decide +kernel), fun _ => List.mem_of_getElem? (i := 1255) (by decide +kernel), fun h => by cases h, by decide +kernel⟩
theorem mf_Log_cellOf : mj_facts 39193762 yX7_cellOf cX7_cellOf (some .int) 1 := ⟨⟨List.mem_of_getElem? (i := 126) (by decide +kernel), by decide +kernel, rfl, by decide +kernel, by decide +kernel, by decide +kernel⟩, fun _ => List.mem_of_getElem? (i := 1606) (by decide +kernel), fun h => absurd (by decide +kernel) h, fun h => by cases h, fun _ => List.mem_of_getElem? (i := 1604) (by decide +kernel), fun _ => List.mem_of_getElem? (i := 1605) (by decide +kernel), fun h => by cases h, by decide +kernel⟩
theorem mf_Log_isCut : mj_facts 39390370 yX7_isCut cX7_isCut (some .boolean) 1 := ⟨⟨List.mem_of_getElem? (i := 126) (by decide +kernel), by decide +kernel, rfl, by decide +kernel, by decide +kernel, by decide +kernel⟩, fun _ => List.mem_of_getElem? (i := 1602) (by decide +kernel), fun h => absurd (by decide +kernel) h, fun h => by cases h, fun _ => List.mem_of_getElem? (i := 1601) (by decide +kernel), fun _ => List.mem_of_getElem? (i := 27) (by decide +kernel), fun h => by cases h, by decide +kernel⟩
theorem mf_Log_cutsOf : mj_facts 39456929 yX7_cutsOf cX7_cutsOf (some .int) 1 := ⟨⟨List.mem_of_getElem? (i := 126) (by decide +kernel), by decide +kernel, rfl, by decide +kernel, by decide +kernel, by decide +kernel⟩, fun _ => List.mem_of_getElem? (i := 1610) (by decide +kernel), fun h => absurd (by decide +kernel) h, fun h => by cases h, fun _ => List.mem_of_getElem? (i := 1608) (by decide +kernel), fun _ => List.mem_of_getElem? (i := 1609) (by decide +kernel), fun h => by cases h, by decide +kernel⟩
theorem mf_Log_latestCut : mj_facts 39586977 yX7_latestCut cX7_latestCut (some .int) 1 := ⟨⟨List.mem_of_getElem? (i := 126) (by decide +kernel), by decide +kernel, rfl, by decide +kernel, by decide +kernel, by decide +kernel⟩, fun _ => List.mem_of_getElem? (i := 1598) (by decide +kernel), fun h => absurd (by decide +kernel) h, fun h => by cases h, fun _ => List.mem_of_getElem? (i := 1596) (by decide +kernel), fun _ => List.mem_of_getElem? (i := 1597) (by decide +kernel), fun h => by cases h, by decide +kernel⟩
theorem mf_Orders_init : mj_facts 39716032 yX8_init cX8_init (none) 2 := ⟨⟨List.mem_of_getElem? (i := 125) (by decide +kernel), by decide +kernel, rfl, by decide +kernel, by decide +kernel, by decide +kernel⟩, fun _ => List.mem_of_getElem? (i := 338) (by decide +kernel), fun h => absurd (by decide +kernel) h, fun h => by cases h, fun _ => List.mem_of_getElem? (i := 337) (by decide +kernel), fun h => by cases h, fun _ => ⟨rfl, rfl⟩, by decide +kernel⟩
theorem mf_Orders_copy : mj_facts 39848129 yX8_copy cX8_copy (none) 1 := ⟨⟨List.mem_of_getElem? (i := 125) (by decide +kernel), by decide +kernel, rfl, by decide +kernel, by decide +kernel, by decide +kernel⟩, fun _ => List.mem_of_getElem? (i := 630) (by decide +kernel), fun h => absurd (by decide +kernel) h, fun h => by cases h, fun _ => List.mem_of_getElem? (i := 628) (by decide +kernel), fun _ => List.mem_of_getElem? (i := 629) (by decide +kernel), fun h => by cases h, by decide +kernel⟩
theorem mf_Orders_add : mj_facts 39980226 yX8_add cX8_add (none) 1 := ⟨⟨List.mem_of_getElem? (i := 125) (by decide +kernel), by decide +kernel, rfl, by decide +kernel, by decide +kernel, by decide +kernel⟩, fun _ => List.mem_of_getElem? (i := 822) (by decide +kernel), fun h => absurd (by decide +kernel) h, fun h => by cases h, fun _ => List.mem_of_getElem? (i := 820) (by decide +kernel), fun _ => List.mem_of_getElem? (i := 821) (by decide +kernel), fun h => by cases h, by decide +kernel⟩
theorem mf_Orders_isOpen : mj_facts 40175809 yX8_isOpen cX8_isOpen (some .boolean) 1 := ⟨⟨List.mem_of_getElem? (i := 125) (by decide +kernel), by decide +kernel, rfl, by decide +kernel, by decide +kernel, by decide +kernel⟩, fun _ => List.mem_of_getElem? (i := 585) (by decide +kernel), fun h => absurd (by decide +kernel) h, fun h => by cases h, fun _ => List.mem_of_getElem? (i := 583) (by decide +kernel), fun _ => List.mem_of_getElem? (i := 584) (by decide +kernel), fun h => by cases h, by decide +kernel⟩
theorem mf_Orders_shut : mj_facts 40241345 yX8_shut cX8_shut (none) 1 := ⟨⟨List.mem_of_getElem? (i := 125) (by decide +kernel), by decide +kernel, rfl, by decide +kernel, by decide +kernel, by decide +kernel⟩, fun _ => List.mem_of_getElem? (i := 1252) (by decide +kernel), fun h => absurd (by decide +kernel) h, fun h => by cases h, fun _ => List.mem_of_getElem? (i := 1250) (by decide +kernel), fun _ => List.mem_of_getElem? (i := 1251) (by decide +kernel), fun h => by cases h, by decide +kernel⟩
theorem mf_Tape_init : mj_facts 40371424 yX9_init cX9_init (none) 2 := ⟨⟨List.mem_of_getElem? (i := 119) (by decide +kernel), by decide +kernel, rfl, by decide +kernel, by decide +kernel, by decide +kernel⟩, fun _ => List.mem_of_getElem? (i := 158) (by decide +kernel), fun h => absurd (by decide +kernel) h, fun h => by cases h, fun _ => List.mem_of_getElem? (i := 157) (by decide +kernel), fun h => by cases h, fun _ => ⟨rfl, rfl⟩, by decide +kernel⟩
theorem mf_Tape_push : mj_facts 40504545 yX9_push cX9_push (none) 1 := ⟨⟨List.mem_of_getElem? (i := 119) (by decide +kernel), by decide +kernel, rfl, by decide +kernel, by decide +kernel, by decide +kernel⟩, fun _ => List.mem_of_getElem? (i := 518) (by decide +kernel), fun h => absurd (by decide +kernel) h, fun h => by cases h, fun _ => List.mem_of_getElem? (i := 516) (by decide +kernel), fun _ => List.mem_of_getElem? (i := 517) (by decide +kernel), fun h => by cases h, by decide +kernel⟩
theorem mf_Tape_start : mj_facts 40633568 yX9_start cX9_start (none) 1 := ⟨⟨List.mem_of_getElem? (i := 119) (by decide +kernel), by decide +kernel, rfl, by decide +kernel, by decide +kernel, by decide +kernel⟩, fun _ => List.mem_of_getElem? (i := 670) (by decide +kernel), fun h => absurd (by decide +kernel) h, fun h => by cases h, fun _ => List.mem_of_getElem? (i := 668) (by decide +kernel), fun _ => List.mem_of_getElem? (i := 669) (by decide +kernel), fun h => by cases h, by decide +kernel⟩
theorem mf_Tape_failed : mj_facts 40830176 yX9_failed cX9_failed (some .boolean) 1 := ⟨⟨List.mem_of_getElem? (i := 119) (by decide +kernel), by decide +kernel, rfl, by decide +kernel, by decide +kernel, by decide +kernel⟩, fun _ => List.mem_of_getElem? (i := 682) (by decide +kernel), fun h => absurd (by decide +kernel) h, fun h => by cases h, fun _ => List.mem_of_getElem? (i := 680) (by decide +kernel), fun _ => List.mem_of_getElem? (i := 681) (by decide +kernel), fun h => by cases h, by decide +kernel⟩
theorem mf_Tape_fail : mj_facts 40895712 yX9_fail cX9_fail (none) 1 := ⟨⟨List.mem_of_getElem? (i := 119) (by decide +kernel), by decide +kernel, rfl, by decide +kernel, by decide +kernel, by decide +kernel⟩, fun _ => List.mem_of_getElem? (i := 694) (by decide +kernel), fun h => absurd (by decide +kernel) h, fun h => by cases h, fun _ => List.mem_of_getElem? (i := 692) (by decide +kernel), fun _ => List.mem_of_getElem? (i := 693) (by decide +kernel), fun h => by cases h, by decide +kernel⟩
theorem mf_Tape_lineComes : mj_facts 41094370 yX9_lineComes cX9_lineComes (some .boolean) 1 := ⟨⟨List.mem_of_getElem? (i := 119) (by decide +kernel), by decide +kernel, rfl, by decide +kernel, by decide +kernel, by decide +kernel⟩, fun _ => List.mem_of_getElem? (i := 678) (by decide +kernel), fun h => absurd (by decide +kernel) h, fun h => by cases h, fun _ => List.mem_of_getElem? (i := 676) (by decide +kernel), fun _ => List.mem_of_getElem? (i := 677) (by decide +kernel), fun h => by cases h, by decide +kernel⟩
theorem mf_Tape_isSign : mj_facts 41224417 yX9_isSign cX9_isSign (some .boolean) 1 := ⟨⟨List.mem_of_getElem? (i := 119) (by decide +kernel), by decide +kernel, rfl, by decide +kernel, by decide +kernel, by decide +kernel⟩, fun _ => List.mem_of_getElem? (i := 690) (by decide +kernel), fun h => absurd (by decide +kernel) h, fun h => by cases h, fun _ => List.mem_of_getElem? (i := 688) (by decide +kernel), fun _ => List.mem_of_getElem? (i := 689) (by decide +kernel), fun h => by cases h, by decide +kernel⟩
theorem mf_Tape_takeSign : mj_facts 41356513 yX9_takeSign cX9_takeSign (some .boolean) 1 := ⟨⟨List.mem_of_getElem? (i := 119) (by decide +kernel), by decide +kernel, rfl, by decide +kernel, by decide +kernel, by decide +kernel⟩, fun _ => List.mem_of_getElem? (i := 686) (by decide +kernel), fun h => absurd (by decide +kernel) h, fun h => by cases h, fun _ => List.mem_of_getElem? (i := 684) (by decide +kernel), fun _ => List.mem_of_getElem? (i := 685) (by decide +kernel), fun h => by cases h, by decide +kernel⟩
theorem mf_Tape_isWord : mj_facts 41488609 yX9_isWord cX9_isWord (some .boolean) 1 := ⟨⟨List.mem_of_getElem? (i := 119) (by decide +kernel), by decide +kernel, rfl, by decide +kernel, by decide +kernel, by decide +kernel⟩, fun _ => List.mem_of_getElem? (i := 702) (by decide +kernel), fun h => absurd (by decide +kernel) h, fun h => by cases h, fun _ => List.mem_of_getElem? (i := 700) (by decide +kernel), fun _ => List.mem_of_getElem? (i := 701) (by decide +kernel), fun h => by cases h, by decide +kernel⟩
theorem mf_Tape_takeWord : mj_facts 41618657 yX9_takeWord cX9_takeWord (some .boolean) 1 := ⟨⟨List.mem_of_getElem? (i := 119) (by decide +kernel), by decide +kernel, rfl, by decide +kernel, by decide +kernel, by decide +kernel⟩, fun _ => List.mem_of_getElem? (i := 761) (by decide +kernel), fun h => absurd (by decide +kernel) h, fun h => by cases h, fun _ => List.mem_of_getElem? (i := 759) (by decide +kernel), fun _ => List.mem_of_getElem? (i := 760) (by decide +kernel), fun h => by cases h, by decide +kernel⟩
theorem mf_Tape_needWord : mj_facts 41683169 yX9_needWord cX9_needWord (none) 1 := ⟨⟨List.mem_of_getElem? (i := 119) (by decide +kernel), by decide +kernel, rfl, by decide +kernel, by decide +kernel, by decide +kernel⟩, fun _ => List.mem_of_getElem? (i := 757) (by decide +kernel), fun h => absurd (by decide +kernel) h, fun h => by cases h, fun _ => List.mem_of_getElem? (i := 755) (by decide +kernel), fun _ => List.mem_of_getElem? (i := 756) (by decide +kernel), fun h => by cases h, by decide +kernel⟩
theorem mf_Tape_isNumber : mj_facts 41878752 yX9_isNumber cX9_isNumber (some .boolean) 1 := ⟨⟨List.mem_of_getElem? (i := 119) (by decide +kernel), by decide +kernel, rfl, by decide +kernel, by decide +kernel, by decide +kernel⟩, fun _ => List.mem_of_getElem? (i := 798) (by decide +kernel), fun h => absurd (by decide +kernel) h, fun h => by cases h, fun _ => List.mem_of_getElem? (i := 796) (by decide +kernel), fun _ => List.mem_of_getElem? (i := 797) (by decide +kernel), fun h => by cases h, by decide +kernel⟩
theorem mf_Tape_takeNumber : mj_facts 41948386 yX9_takeNumber cX9_takeNumber (some .int) 1 := ⟨⟨List.mem_of_getElem? (i := 119) (by decide +kernel), by decide +kernel, rfl, by decide +kernel, by decide +kernel, by decide +kernel⟩, fun _ => List.mem_of_getElem? (i := 774) (by decide +kernel), fun h => absurd (by decide +kernel) h, fun h => by cases h, fun _ => List.mem_of_getElem? (i := 772) (by decide +kernel), fun _ => List.mem_of_getElem? (i := 773) (by decide +kernel), fun h => by cases h, by decide +kernel⟩
theorem mf_Tape_isDigit : mj_facts 42140897 yX9_isDigit cX9_isDigit (some .boolean) 0 := ⟨⟨List.mem_of_getElem? (i := 119) (by decide +kernel), by decide +kernel, rfl, by decide +kernel, by decide +kernel, by decide +kernel⟩, fun _ => List.mem_of_getElem? (i := 777) (by decide +kernel), fun h => absurd (by decide +kernel) h, fun _ => List.mem_of_getElem? (i := 776) (by decide +kernel), fun h => absurd rfl h, fun h => by cases h, fun h => by cases h, by decide +kernel⟩
theorem mf_Tape_moveTo : mj_facts 42207457 yX9_moveTo cX9_moveTo (none) 1 := ⟨⟨List.mem_of_getElem? (i := 119) (by decide +kernel), by decide +kernel, rfl, by decide +kernel, by decide +kernel, by decide +kernel⟩, fun _ => List.mem_of_getElem? (i := 674) (by decide +kernel), fun h => absurd (by decide +kernel) h, fun h => by cases h, fun _ => List.mem_of_getElem? (i := 673) (by decide +kernel), fun _ => List.mem_of_getElem? (i := 2) (by decide +kernel), fun h => by cases h, by decide +kernel⟩
theorem mf_Ways_init : mj_facts 42337536 yX10_init cX10_init (none) 2 := ⟨⟨List.mem_of_getElem? (i := 120) (by decide +kernel), by decide +kernel, rfl, by decide +kernel, by decide +kernel, by decide +kernel⟩, fun _ => List.mem_of_getElem? (i := 182) (by decide +kernel), fun h => absurd (by decide +kernel) h, fun h => by cases h, fun _ => List.mem_of_getElem? (i := 181) (by decide +kernel), fun h => by cases h, fun _ => ⟨rfl, rfl⟩, by decide +kernel⟩
theorem mf_Ways_takePieces : mj_facts 42537217 yX10_takePieces cX10_takePieces (some .boolean) 1 := ⟨⟨List.mem_of_getElem? (i := 120) (by decide +kernel), by decide +kernel, rfl, by decide +kernel, by decide +kernel, by decide +kernel⟩, fun _ => List.mem_of_getElem? (i := 1382) (by decide +kernel), fun h => absurd (by decide +kernel) h, fun h => by cases h, fun _ => List.mem_of_getElem? (i := 1380) (by decide +kernel), fun _ => List.mem_of_getElem? (i := 1381) (by decide +kernel), fun h => by cases h, by decide +kernel⟩
theorem mf_Ways_takeSeen : mj_facts 42668289 yX10_takeSeen cX10_takeSeen (some .boolean) 1 := ⟨⟨List.mem_of_getElem? (i := 120) (by decide +kernel), by decide +kernel, rfl, by decide +kernel, by decide +kernel, by decide +kernel⟩, fun _ => List.mem_of_getElem? (i := 1425) (by decide +kernel), fun h => absurd (by decide +kernel) h, fun h => by cases h, fun _ => List.mem_of_getElem? (i := 1423) (by decide +kernel), fun _ => List.mem_of_getElem? (i := 1424) (by decide +kernel), fun h => by cases h, by decide +kernel⟩
theorem mf_Ways_takeTelling : mj_facts 42799362 yX10_takeTelling cX10_takeTelling (some .boolean) 1 := ⟨⟨List.mem_of_getElem? (i := 120) (by decide +kernel), by decide +kernel, rfl, by decide +kernel, by decide +kernel, by decide +kernel⟩, fun _ => List.mem_of_getElem? (i := 1386) (by decide +kernel), fun h => absurd (by decide +kernel) h, fun h => by cases h, fun _ => List.mem_of_getElem? (i := 1385) (by decide +kernel), fun _ => List.mem_of_getElem? (i := 19) (by decide +kernel), fun h => by cases h, by decide +kernel⟩
theorem mf_Ways_beginTrying : mj_facts 42862848 yX10_beginTrying cX10_beginTrying (none) 1 := ⟨⟨List.mem_of_getElem? (i := 120) (by decide +kernel), by decide +kernel, rfl, by decide +kernel, by decide +kernel, by decide +kernel⟩, fun _ => List.mem_of_getElem? (i := 1399) (by decide +kernel), fun h => absurd (by decide +kernel) h, fun h => by cases h, fun _ => List.mem_of_getElem? (i := 1398) (by decide +kernel), fun _ => List.mem_of_getElem? (i := 20) (by decide +kernel), fun h => by cases h, by decide +kernel⟩
theorem mf_Ways_keepTried : mj_facts 42993921 yX10_keepTried cX10_keepTried (none) 1 := ⟨⟨List.mem_of_getElem? (i := 120) (by decide +kernel), by decide +kernel, rfl, by decide +kernel, by decide +kernel, by decide +kernel⟩, fun _ => List.mem_of_getElem? (i := 1406) (by decide +kernel), fun h => absurd (by decide +kernel) h, fun h => by cases h, fun _ => List.mem_of_getElem? (i := 1405) (by decide +kernel), fun _ => List.mem_of_getElem? (i := 21) (by decide +kernel), fun h => by cases h, by decide +kernel⟩
theorem mf_Ways_fewestRods : mj_facts 43124993 yX10_fewestRods cX10_fewestRods (some .int) 1 := ⟨⟨List.mem_of_getElem? (i := 120) (by decide +kernel), by decide +kernel, rfl, by decide +kernel, by decide +kernel, by decide +kernel⟩, fun _ => List.mem_of_getElem? (i := 1395) (by decide +kernel), fun h => absurd (by decide +kernel) h, fun h => by cases h, fun _ => List.mem_of_getElem? (i := 1393) (by decide +kernel), fun _ => List.mem_of_getElem? (i := 1394) (by decide +kernel), fun h => by cases h, by decide +kernel⟩
theorem mf_Ways_tryRods : mj_facts 43260164 yX10_tryRods cX10_tryRods (none) 0 := ⟨⟨List.mem_of_getElem? (i := 120) (by decide +kernel), by decide +kernel, rfl, by decide +kernel, by decide +kernel, by decide +kernel⟩, fun _ => List.mem_of_getElem? (i := 1402) (by decide +kernel), fun h => absurd (by decide +kernel) h, fun _ => List.mem_of_getElem? (i := 1401) (by decide +kernel), fun h => absurd rfl h, fun h => by cases h, fun h => by cases h, by decide +kernel⟩
theorem mf_Ways_bestTeam : mj_facts 43387137 yX10_bestTeam cX10_bestTeam (some .int) 1 := ⟨⟨List.mem_of_getElem? (i := 120) (by decide +kernel), by decide +kernel, rfl, by decide +kernel, by decide +kernel, by decide +kernel⟩, fun _ => List.mem_of_getElem? (i := 1462) (by decide +kernel), fun h => absurd (by decide +kernel) h, fun h => by cases h, fun _ => List.mem_of_getElem? (i := 1460) (by decide +kernel), fun _ => List.mem_of_getElem? (i := 1461) (by decide +kernel), fun h => by cases h, by decide +kernel⟩
theorem mf_Ways_tryTeam : mj_facts 43523333 yX10_tryTeam cX10_tryTeam (none) 0 := ⟨⟨List.mem_of_getElem? (i := 120) (by decide +kernel), by decide +kernel, rfl, by decide +kernel, by decide +kernel, by decide +kernel⟩, fun _ => List.mem_of_getElem? (i := 1465) (by decide +kernel), fun h => absurd (by decide +kernel) h, fun _ => List.mem_of_getElem? (i := 1464) (by decide +kernel), fun h => absurd rfl h, fun h => by cases h, fun h => by cases h, by decide +kernel⟩
theorem mf_Ways_bestPairs : mj_facts 43649281 yX10_bestPairs cX10_bestPairs (some .int) 1 := ⟨⟨List.mem_of_getElem? (i := 120) (by decide +kernel), by decide +kernel, rfl, by decide +kernel, by decide +kernel, by decide +kernel⟩, fun _ => List.mem_of_getElem? (i := 1476) (by decide +kernel), fun h => absurd (by decide +kernel) h, fun h => by cases h, fun _ => List.mem_of_getElem? (i := 1474) (by decide +kernel), fun _ => List.mem_of_getElem? (i := 1475) (by decide +kernel), fun h => by cases h, by decide +kernel⟩
theorem mf_Ways_tryPairs : mj_facts 43783428 yX10_tryPairs cX10_tryPairs (none) 0 := ⟨⟨List.mem_of_getElem? (i := 120) (by decide +kernel), by decide +kernel, rfl, by decide +kernel, by decide +kernel, by decide +kernel⟩, fun _ => List.mem_of_getElem? (i := 1479) (by decide +kernel), fun h => absurd (by decide +kernel) h, fun _ => List.mem_of_getElem? (i := 1478) (by decide +kernel), fun h => absurd rfl h, fun h => by cases h, fun h => by cases h, by decide +kernel⟩
theorem mf_Ways_findWeaves : mj_facts 43913472 yX10_findWeaves cX10_findWeaves (none) 1 := ⟨⟨List.mem_of_getElem? (i := 120) (by decide +kernel), by decide +kernel, rfl, by decide +kernel, by decide +kernel, by decide +kernel⟩, fun _ => List.mem_of_getElem? (i := 1429) (by decide +kernel), fun h => absurd (by decide +kernel) h, fun h => by cases h, fun _ => List.mem_of_getElem? (i := 1427) (by decide +kernel), fun _ => List.mem_of_getElem? (i := 1428) (by decide +kernel), fun h => by cases h, by decide +kernel⟩
theorem mf_Ways_keepIfSeen : mj_facts 44044545 yX10_keepIfSeen cX10_keepIfSeen (none) 1 := ⟨⟨List.mem_of_getElem? (i := 120) (by decide +kernel), by decide +kernel, rfl, by decide +kernel, by decide +kernel, by decide +kernel⟩, fun _ => List.mem_of_getElem? (i := 1433) (by decide +kernel), fun h => absurd (by decide +kernel) h, fun h => by cases h, fun _ => List.mem_of_getElem? (i := 1432) (by decide +kernel), fun _ => List.mem_of_getElem? (i := 22) (by decide +kernel), fun h => by cases h, by decide +kernel⟩
theorem mf_Ways_isOver : mj_facts 44241154 yX10_isOver cX10_isOver (some .boolean) 0 := ⟨⟨List.mem_of_getElem? (i := 120) (by decide +kernel), by decide +kernel, rfl, by decide +kernel, by decide +kernel, by decide +kernel⟩, fun _ => List.mem_of_getElem? (i := 1436) (by decide +kernel), fun h => absurd (by decide +kernel) h, fun _ => List.mem_of_getElem? (i := 1435) (by decide +kernel), fun h => absurd rfl h, fun h => by cases h, fun h => by cases h, by decide +kernel⟩
theorem mf_Ways_placeToLook : mj_facts 44307712 yX10_placeToLook cX10_placeToLook (some .int) 1 := ⟨⟨List.mem_of_getElem? (i := 120) (by decide +kernel), by decide +kernel, rfl, by decide +kernel, by decide +kernel, by decide +kernel⟩, fun _ => List.mem_of_getElem? (i := 1447) (by decide +kernel), fun h => absurd (by decide +kernel) h, fun h => by cases h, fun _ => List.mem_of_getElem? (i := 1445) (by decide +kernel), fun _ => List.mem_of_getElem? (i := 1446) (by decide +kernel), fun h => by cases h, by decide +kernel⟩
theorem mf_Ways_greaterPart : mj_facts 44437761 yX10_greaterPart cX10_greaterPart (some .int) 1 := ⟨⟨List.mem_of_getElem? (i := 120) (by decide +kernel), by decide +kernel, rfl, by decide +kernel, by decide +kernel, by decide +kernel⟩, fun _ => List.mem_of_getElem? (i := 1451) (by decide +kernel), fun h => absurd (by decide +kernel) h, fun h => by cases h, fun _ => List.mem_of_getElem? (i := 1450) (by decide +kernel), fun _ => List.mem_of_getElem? (i := 23) (by decide +kernel), fun h => by cases h, by decide +kernel⟩
theorem mf_Ways_steps : mj_facts 44574979 yX10_steps cX10_steps (some .int) 1 := ⟨⟨List.mem_of_getElem? (i := 120) (by decide +kernel), by decide +kernel, rfl, by decide +kernel, by decide +kernel, by decide +kernel⟩, fun _ => List.mem_of_getElem? (i := 1134) (by decide +kernel), fun h => absurd (by decide +kernel) h, fun h => by cases h, fun _ => List.mem_of_getElem? (i := 1132) (by decide +kernel), fun _ => List.mem_of_getElem? (i := 1133) (by decide +kernel), fun h => by cases h, by decide +kernel⟩
theorem mf_Ways_nearest : mj_facts 44702978 yX10_nearest cX10_nearest (some .int) 1 := ⟨⟨List.mem_of_getElem? (i := 120) (by decide +kernel), by decide +kernel, rfl, by decide +kernel, by decide +kernel, by decide +kernel⟩, fun _ => List.mem_of_getElem? (i := 1130) (by decide +kernel), fun h => absurd (by decide +kernel) h, fun h => by cases h, fun _ => List.mem_of_getElem? (i := 1128) (by decide +kernel), fun _ => List.mem_of_getElem? (i := 1129) (by decide +kernel), fun h => by cases h, by decide +kernel⟩
theorem mf_Ways_giveBundles : mj_facts 44832002 yX10_giveBundles cX10_giveBundles (none) 1 := ⟨⟨List.mem_of_getElem? (i := 120) (by decide +kernel), by decide +kernel, rfl, by decide +kernel, by decide +kernel, by decide +kernel⟩, fun _ => List.mem_of_getElem? (i := 1498) (by decide +kernel), fun h => absurd (by decide +kernel) h, fun h => by cases h, fun _ => List.mem_of_getElem? (i := 1496) (by decide +kernel), fun _ => List.mem_of_getElem? (i := 1497) (by decide +kernel), fun h => by cases h, by decide +kernel⟩
theorem mf_Ways_nextToGive : mj_facts 44964097 yX10_nextToGive cX10_nextToGive (some .int) 1 := ⟨⟨List.mem_of_getElem? (i := 120) (by decide +kernel), by decide +kernel, rfl, by decide +kernel, by decide +kernel, by decide +kernel⟩, fun _ => List.mem_of_getElem? (i := 1502) (by decide +kernel), fun h => absurd (by decide +kernel) h, fun h => by cases h, fun _ => List.mem_of_getElem? (i := 1501) (by decide +kernel), fun _ => List.mem_of_getElem? (i := 24) (by decide +kernel), fun h => by cases h, by decide +kernel⟩
theorem mf_Lw_holt : mj_facts 45092258 yL_holt cL_holt (some .int) 0 := ⟨⟨List.mem_of_getElem? (i := 117) (by decide +kernel), by decide +kernel, rfl, by decide +kernel, by decide +kernel, by decide +kernel⟩, fun h => absurd h (by decide +kernel), fun _ => ⟨List.mem_of_getElem? (i := 657) (by decide +kernel), rfl⟩, fun _ => List.mem_of_getElem? (i := 656) (by decide +kernel), fun h => absurd rfl h, fun h => by cases h, fun h => by cases h, by decide +kernel⟩
theorem mf_Lw_law : mj_facts 45223330 yL_law cL_law (some .int) 0 := ⟨⟨List.mem_of_getElem? (i := 117) (by decide +kernel), by decide +kernel, rfl, by decide +kernel, by decide +kernel, by decide +kernel⟩, fun h => absurd h (by decide +kernel), fun _ => ⟨List.mem_of_getElem? (i := 918) (by decide +kernel), rfl⟩, fun _ => List.mem_of_getElem? (i := 917) (by decide +kernel), fun h => absurd rfl h, fun h => by cases h, fun h => by cases h, by decide +kernel⟩
theorem mf_Lw_bed : mj_facts 45356452 yL_bed cL_bed (some .int) 0 := ⟨⟨List.mem_of_getElem? (i := 117) (by decide +kernel), by decide +kernel, rfl, by decide +kernel, by decide +kernel, by decide +kernel⟩, fun h => absurd h (by decide +kernel), fun _ => ⟨List.mem_of_getElem? (i := 986) (by decide +kernel), rfl⟩, fun _ => List.mem_of_getElem? (i := 985) (by decide +kernel), fun h => absurd rfl h, fun h => by cases h, fun h => by cases h, by decide +kernel⟩
theorem mf_Lw_basket : mj_facts 45487524 yL_basket cL_basket (some .int) 0 := ⟨⟨List.mem_of_getElem? (i := 117) (by decide +kernel), by decide +kernel, rfl, by decide +kernel, by decide +kernel, by decide +kernel⟩, fun h => absurd h (by decide +kernel), fun _ => ⟨List.mem_of_getElem? (i := 1075) (by decide +kernel), rfl⟩, fun _ => List.mem_of_getElem? (i := 1074) (by decide +kernel), fun h => absurd rfl h, fun h => by cases h, fun h => by cases h, by decide +kernel⟩
theorem mf_Lw_run : mj_facts 45618596 yL_run cL_run (some .int) 0 := ⟨⟨List.mem_of_getElem? (i := 117) (by decide +kernel), by decide +kernel, rfl, by decide +kernel, by decide +kernel, by decide +kernel⟩, fun h => absurd h (by decide +kernel), fun _ => ⟨List.mem_of_getElem? (i := 1142) (by decide +kernel), rfl⟩, fun _ => List.mem_of_getElem? (i := 1141) (by decide +kernel), fun h => absurd rfl h, fun h => by cases h, fun h => by cases h, by decide +kernel⟩
theorem mf_Lw_over : mj_facts 45750693 yL_over cL_over (some .int) 0 := ⟨⟨List.mem_of_getElem? (i := 117) (by decide +kernel), by decide +kernel, rfl, by decide +kernel, by decide +kernel, by decide +kernel⟩, fun h => absurd h (by decide +kernel), fun _ => ⟨List.mem_of_getElem? (i := 1150) (by decide +kernel), rfl⟩, fun _ => List.mem_of_getElem? (i := 1149) (by decide +kernel), fun h => absurd rfl h, fun h => by cases h, fun h => by cases h, by decide +kernel⟩
theorem mf_Lw_sound : mj_facts 45879715 yL_sound cL_sound (some .int) 0 := ⟨⟨List.mem_of_getElem? (i := 117) (by decide +kernel), by decide +kernel, rfl, by decide +kernel, by decide +kernel, by decide +kernel⟩, fun h => absurd h (by decide +kernel), fun _ => ⟨List.mem_of_getElem? (i := 1159) (by decide +kernel), rfl⟩, fun _ => List.mem_of_getElem? (i := 1158) (by decide +kernel), fun h => absurd rfl h, fun h => by cases h, fun h => by cases h, by decide +kernel⟩
theorem mf_Lw_store : mj_facts 46010787 yL_store cL_store (some .int) 0 := ⟨⟨List.mem_of_getElem? (i := 117) (by decide +kernel), by decide +kernel, rfl, by decide +kernel, by decide +kernel, by decide +kernel⟩, fun h => absurd h (by decide +kernel), fun _ => ⟨List.mem_of_getElem? (i := 1166) (by decide +kernel), rfl⟩, fun _ => List.mem_of_getElem? (i := 1165) (by decide +kernel), fun h => absurd rfl h, fun h => by cases h, fun h => by cases h, by decide +kernel⟩
theorem mf_Lw_hand : mj_facts 46142884 yL_hand cL_hand (some .int) 0 := ⟨⟨List.mem_of_getElem? (i := 117) (by decide +kernel), by decide +kernel, rfl, by decide +kernel, by decide +kernel, by decide +kernel⟩, fun h => absurd h (by decide +kernel), fun _ => ⟨List.mem_of_getElem? (i := 1176) (by decide +kernel), rfl⟩, fun _ => List.mem_of_getElem? (i := 1175) (by decide +kernel), fun h => absurd rfl h, fun h => by cases h, fun h => by cases h, by decide +kernel⟩
theorem mf_Lw_order : mj_facts 46273956 yL_order cL_order (some .int) 0 := ⟨⟨List.mem_of_getElem? (i := 117) (by decide +kernel), by decide +kernel, rfl, by decide +kernel, by decide +kernel, by decide +kernel⟩, fun h => absurd h (by decide +kernel), fun _ => ⟨List.mem_of_getElem? (i := 1187) (by decide +kernel), rfl⟩, fun _ => List.mem_of_getElem? (i := 1186) (by decide +kernel), fun h => absurd rfl h, fun h => by cases h, fun h => by cases h, by decide +kernel⟩
theorem mf_Lw_years : mj_facts 46404003 yL_years cL_years (some .int) 0 := ⟨⟨List.mem_of_getElem? (i := 117) (by decide +kernel), by decide +kernel, rfl, by decide +kernel, by decide +kernel, by decide +kernel⟩, fun h => absurd h (by decide +kernel), fun _ => ⟨List.mem_of_getElem? (i := 1200) (by decide +kernel), rfl⟩, fun _ => List.mem_of_getElem? (i := 1199) (by decide +kernel), fun h => absurd rfl h, fun h => by cases h, fun h => by cases h, by decide +kernel⟩
theorem mf_Lw_cut : mj_facts 46535075 yL_cut cL_cut (some .int) 0 := ⟨⟨List.mem_of_getElem? (i := 117) (by decide +kernel), by decide +kernel, rfl, by decide +kernel, by decide +kernel, by decide +kernel⟩, fun h => absurd h (by decide +kernel), fun _ => ⟨List.mem_of_getElem? (i := 1259) (by decide +kernel), rfl⟩, fun _ => List.mem_of_getElem? (i := 1258) (by decide +kernel), fun h => absurd rfl h, fun h => by cases h, fun h => by cases h, by decide +kernel⟩
theorem mf_Lw_buy : mj_facts 46667172 yL_buy cL_buy (some .int) 0 := ⟨⟨List.mem_of_getElem? (i := 117) (by decide +kernel), by decide +kernel, rfl, by decide +kernel, by decide +kernel, by decide +kernel⟩, fun h => absurd h (by decide +kernel), fun _ => ⟨List.mem_of_getElem? (i := 1288) (by decide +kernel), rfl⟩, fun _ => List.mem_of_getElem? (i := 1287) (by decide +kernel), fun h => absurd rfl h, fun h => by cases h, fun h => by cases h, by decide +kernel⟩
theorem mf_Lw_sell : mj_facts 46798244 yL_sell cL_sell (some .int) 0 := ⟨⟨List.mem_of_getElem? (i := 117) (by decide +kernel), by decide +kernel, rfl, by decide +kernel, by decide +kernel, by decide +kernel⟩, fun h => absurd h (by decide +kernel), fun _ => ⟨List.mem_of_getElem? (i := 1295) (by decide +kernel), rfl⟩, fun _ => List.mem_of_getElem? (i := 1294) (by decide +kernel), fun h => absurd rfl h, fun h => by cases h, fun h => by cases h, by decide +kernel⟩
theorem mf_Lw_take : mj_facts 46929316 yL_take cL_take (some .int) 0 := ⟨⟨List.mem_of_getElem? (i := 117) (by decide +kernel), by decide +kernel, rfl, by decide +kernel, by decide +kernel, by decide +kernel⟩, fun h => absurd h (by decide +kernel), fun _ => ⟨List.mem_of_getElem? (i := 1303) (by decide +kernel), rfl⟩, fun _ => List.mem_of_getElem? (i := 1302) (by decide +kernel), fun h => absurd rfl h, fun h => by cases h, fun h => by cases h, by decide +kernel⟩
theorem mf_Lw_drop : mj_facts 47058338 yL_drop cL_drop (some .int) 0 := ⟨⟨List.mem_of_getElem? (i := 117) (by decide +kernel), by decide +kernel, rfl, by decide +kernel, by decide +kernel, by decide +kernel⟩, fun h => absurd h (by decide +kernel), fun _ => ⟨List.mem_of_getElem? (i := 1311) (by decide +kernel), rfl⟩, fun _ => List.mem_of_getElem? (i := 1310) (by decide +kernel), fun h => absurd rfl h, fun h => by cases h, fun h => by cases h, by decide +kernel⟩
theorem mf_Lw_drain : mj_facts 47191460 yL_drain cL_drain (some .int) 0 := ⟨⟨List.mem_of_getElem? (i := 117) (by decide +kernel), by decide +kernel, rfl, by decide +kernel, by decide +kernel, by decide +kernel⟩, fun h => absurd h (by decide +kernel), fun _ => ⟨List.mem_of_getElem? (i := 1319) (by decide +kernel), rfl⟩, fun _ => List.mem_of_getElem? (i := 1318) (by decide +kernel), fun h => absurd rfl h, fun h => by cases h, fun h => by cases h, by decide +kernel⟩
theorem mf_Lw_hire : mj_facts 47322532 yL_hire cL_hire (some .int) 0 := ⟨⟨List.mem_of_getElem? (i := 117) (by decide +kernel), by decide +kernel, rfl, by decide +kernel, by decide +kernel, by decide +kernel⟩, fun h => absurd h (by decide +kernel), fun _ => ⟨List.mem_of_getElem? (i := 1326) (by decide +kernel), rfl⟩, fun _ => List.mem_of_getElem? (i := 1325) (by decide +kernel), fun h => absurd rfl h, fun h => by cases h, fun h => by cases h, by decide +kernel⟩
theorem mf_Lw_teach : mj_facts 47452579 yL_teach cL_teach (some .int) 0 := ⟨⟨List.mem_of_getElem? (i := 117) (by decide +kernel), by decide +kernel, rfl, by decide +kernel, by decide +kernel, by decide +kernel⟩, fun h => absurd h (by decide +kernel), fun _ => ⟨List.mem_of_getElem? (i := 1334) (by decide +kernel), rfl⟩, fun _ => List.mem_of_getElem? (i := 1333) (by decide +kernel), fun h => absurd rfl h, fun h => by cases h, fun h => by cases h, by decide +kernel⟩
theorem mf_Lw_make : mj_facts 47583651 yL_make cL_make (some .int) 0 := ⟨⟨List.mem_of_getElem? (i := 117) (by decide +kernel), by decide +kernel, rfl, by decide +kernel, by decide +kernel, by decide +kernel⟩, fun h => absurd h (by decide +kernel), fun _ => ⟨List.mem_of_getElem? (i := 1341) (by decide +kernel), rfl⟩, fun _ => List.mem_of_getElem? (i := 1340) (by decide +kernel), fun h => absurd rfl h, fun h => by cases h, fun h => by cases h, by decide +kernel⟩
theorem mf_Lw_gain : mj_facts 47715748 yL_gain cL_gain (some .int) 0 := ⟨⟨List.mem_of_getElem? (i := 117) (by decide +kernel), by decide +kernel, rfl, by decide +kernel, by decide +kernel, by decide +kernel⟩, fun h => absurd h (by decide +kernel), fun _ => ⟨List.mem_of_getElem? (i := 1350) (by decide +kernel), rfl⟩, fun _ => List.mem_of_getElem? (i := 1349) (by decide +kernel), fun h => absurd rfl h, fun h => by cases h, fun h => by cases h, by decide +kernel⟩
theorem mf_Lw_cuts : mj_facts 47846820 yL_cuts cL_cuts (some .int) 0 := ⟨⟨List.mem_of_getElem? (i := 117) (by decide +kernel), by decide +kernel, rfl, by decide +kernel, by decide +kernel, by decide +kernel⟩, fun h => absurd h (by decide +kernel), fun _ => ⟨List.mem_of_getElem? (i := 1367) (by decide +kernel), rfl⟩, fun _ => List.mem_of_getElem? (i := 1366) (by decide +kernel), fun h => absurd rfl h, fun h => by cases h, fun h => by cases h, by decide +kernel⟩
theorem mf_Lw_pieces : mj_facts 47976867 yL_pieces cL_pieces (some .int) 0 := ⟨⟨List.mem_of_getElem? (i := 117) (by decide +kernel), by decide +kernel, rfl, by decide +kernel, by decide +kernel, by decide +kernel⟩, fun h => absurd h (by decide +kernel), fun _ => ⟨List.mem_of_getElem? (i := 1374) (by decide +kernel), rfl⟩, fun _ => List.mem_of_getElem? (i := 1373) (by decide +kernel), fun h => absurd rfl h, fun h => by cases h, fun h => by cases h, by decide +kernel⟩
theorem mf_Lw_rod : mj_facts 48108964 yL_rod cL_rod (some .int) 0 := ⟨⟨List.mem_of_getElem? (i := 117) (by decide +kernel), by decide +kernel, rfl, by decide +kernel, by decide +kernel, by decide +kernel⟩, fun h => absurd h (by decide +kernel), fun _ => ⟨List.mem_of_getElem? (i := 1410) (by decide +kernel), rfl⟩, fun _ => List.mem_of_getElem? (i := 1409) (by decide +kernel), fun h => absurd rfl h, fun h => by cases h, fun h => by cases h, by decide +kernel⟩
theorem mf_Lw_found : mj_facts 48239011 yL_found cL_found (some .int) 0 := ⟨⟨List.mem_of_getElem? (i := 117) (by decide +kernel), by decide +kernel, rfl, by decide +kernel, by decide +kernel, by decide +kernel⟩, fun h => absurd h (by decide +kernel), fun _ => ⟨List.mem_of_getElem? (i := 1417) (by decide +kernel), rfl⟩, fun _ => List.mem_of_getElem? (i := 1416) (by decide +kernel), fun h => absurd rfl h, fun h => by cases h, fun h => by cases h, by decide +kernel⟩
theorem mf_Lw_look : mj_facts 48369058 yL_look cL_look (some .int) 0 := ⟨⟨List.mem_of_getElem? (i := 117) (by decide +kernel), by decide +kernel, rfl, by decide +kernel, by decide +kernel, by decide +kernel⟩, fun h => absurd h (by decide +kernel), fun _ => ⟨List.mem_of_getElem? (i := 1439) (by decide +kernel), rfl⟩, fun _ => List.mem_of_getElem? (i := 1438) (by decide +kernel), fun h => absurd rfl h, fun h => by cases h, fun h => by cases h, by decide +kernel⟩
theorem mf_Lw_team : mj_facts 48501155 yL_team cL_team (some .int) 0 := ⟨⟨List.mem_of_getElem? (i := 117) (by decide +kernel), by decide +kernel, rfl, by decide +kernel, by decide +kernel, by decide +kernel⟩, fun h => absurd h (by decide +kernel), fun _ => ⟨List.mem_of_getElem? (i := 1454) (by decide +kernel), rfl⟩, fun _ => List.mem_of_getElem? (i := 1453) (by decide +kernel), fun h => absurd rfl h, fun h => by cases h, fun h => by cases h, by decide +kernel⟩
theorem mf_Lw_pairs : mj_facts 48632227 yL_pairs cL_pairs (some .int) 0 := ⟨⟨List.mem_of_getElem? (i := 117) (by decide +kernel), by decide +kernel, rfl, by decide +kernel, by decide +kernel, by decide +kernel⟩, fun h => absurd h (by decide +kernel), fun _ => ⟨List.mem_of_getElem? (i := 1468) (by decide +kernel), rfl⟩, fun _ => List.mem_of_getElem? (i := 1467) (by decide +kernel), fun h => absurd rfl h, fun h => by cases h, fun h => by cases h, by decide +kernel⟩
theorem mf_Lw_change : mj_facts 48764324 yL_change cL_change (some .int) 0 := ⟨⟨List.mem_of_getElem? (i := 117) (by decide +kernel), by decide +kernel, rfl, by decide +kernel, by decide +kernel, by decide +kernel⟩, fun h => absurd h (by decide +kernel), fun _ => ⟨List.mem_of_getElem? (i := 1482) (by decide +kernel), rfl⟩, fun _ => List.mem_of_getElem? (i := 1481) (by decide +kernel), fun h => absurd rfl h, fun h => by cases h, fun h => by cases h, by decide +kernel⟩
theorem mf_Lw_share : mj_facts 48895396 yL_share cL_share (some .int) 0 := ⟨⟨List.mem_of_getElem? (i := 117) (by decide +kernel), by decide +kernel, rfl, by decide +kernel, by decide +kernel, by decide +kernel⟩, fun h => absurd h (by decide +kernel), fun _ => ⟨List.mem_of_getElem? (i := 1490) (by decide +kernel), rfl⟩, fun _ => List.mem_of_getElem? (i := 1489) (by decide +kernel), fun h => absurd rfl h, fun h => by cases h, fun h => by cases h, by decide +kernel⟩
theorem mf_Lw_price : mj_facts 49025443 yL_price cL_price (some .int) 0 := ⟨⟨List.mem_of_getElem? (i := 117) (by decide +kernel), by decide +kernel, rfl, by decide +kernel, by decide +kernel, by decide +kernel⟩, fun h => absurd h (by decide +kernel), fun _ => ⟨List.mem_of_getElem? (i := 1505) (by decide +kernel), rfl⟩, fun _ => List.mem_of_getElem? (i := 1504) (by decide +kernel), fun h => absurd rfl h, fun h => by cases h, fun h => by cases h, by decide +kernel⟩
theorem mf_Lw_rests : mj_facts 49156515 yL_rests cL_rests (some .int) 0 := ⟨⟨List.mem_of_getElem? (i := 117) (by decide +kernel), by decide +kernel, rfl, by decide +kernel, by decide +kernel, by decide +kernel⟩, fun h => absurd h (by decide +kernel), fun _ => ⟨List.mem_of_getElem? (i := 1520) (by decide +kernel), rfl⟩, fun _ => List.mem_of_getElem? (i := 1519) (by decide +kernel), fun h => absurd rfl h, fun h => by cases h, fun h => by cases h, by decide +kernel⟩
theorem mf_Lw_odds : mj_facts 49288612 yL_odds cL_odds (some .int) 0 := ⟨⟨List.mem_of_getElem? (i := 117) (by decide +kernel), by decide +kernel, rfl, by decide +kernel, by decide +kernel, by decide +kernel⟩, fun h => absurd h (by decide +kernel), fun _ => ⟨List.mem_of_getElem? (i := 1530) (by decide +kernel), rfl⟩, fun _ => List.mem_of_getElem? (i := 1529) (by decide +kernel), fun h => absurd rfl h, fun h => by cases h, fun h => by cases h, by decide +kernel⟩
theorem mf_Lw_most : mj_facts 49418659 yL_most cL_most (some .int) 0 := ⟨⟨List.mem_of_getElem? (i := 117) (by decide +kernel), by decide +kernel, rfl, by decide +kernel, by decide +kernel, by decide +kernel⟩, fun h => absurd h (by decide +kernel), fun _ => ⟨List.mem_of_getElem? (i := 1544) (by decide +kernel), rfl⟩, fun _ => List.mem_of_getElem? (i := 1543) (by decide +kernel), fun h => absurd rfl h, fun h => by cases h, fun h => by cases h, by decide +kernel⟩
theorem mf_Lw_sort : mj_facts 49549731 yL_sort cL_sort (some .int) 0 := ⟨⟨List.mem_of_getElem? (i := 117) (by decide +kernel), by decide +kernel, rfl, by decide +kernel, by decide +kernel, by decide +kernel⟩, fun h => absurd h (by decide +kernel), fun _ => ⟨List.mem_of_getElem? (i := 1554) (by decide +kernel), rfl⟩, fun _ => List.mem_of_getElem? (i := 1553) (by decide +kernel), fun h => absurd rfl h, fun h => by cases h, fun h => by cases h, by decide +kernel⟩
theorem mf_Lw_ahead : mj_facts 49682853 yL_ahead cL_ahead (some .int) 0 := ⟨⟨List.mem_of_getElem? (i := 117) (by decide +kernel), by decide +kernel, rfl, by decide +kernel, by decide +kernel, by decide +kernel⟩, fun h => absurd h (by decide +kernel), fun _ => ⟨List.mem_of_getElem? (i := 1565) (by decide +kernel), rfl⟩, fun _ => List.mem_of_getElem? (i := 1564) (by decide +kernel), fun h => absurd rfl h, fun h => by cases h, fun h => by cases h, by decide +kernel⟩
theorem mf_Lw_trial : mj_facts 49812900 yL_trial cL_trial (some .int) 0 := ⟨⟨List.mem_of_getElem? (i := 117) (by decide +kernel), by decide +kernel, rfl, by decide +kernel, by decide +kernel, by decide +kernel⟩, fun h => absurd h (by decide +kernel), fun _ => ⟨List.mem_of_getElem? (i := 1576) (by decide +kernel), rfl⟩, fun _ => List.mem_of_getElem? (i := 1575) (by decide +kernel), fun h => absurd rfl h, fun h => by cases h, fun h => by cases h, by decide +kernel⟩
theorem mf_Lw_span : mj_facts 49943972 yL_span cL_span (some .int) 0 := ⟨⟨List.mem_of_getElem? (i := 117) (by decide +kernel), by decide +kernel, rfl, by decide +kernel, by decide +kernel, by decide +kernel⟩, fun h => absurd h (by decide +kernel), fun _ => ⟨List.mem_of_getElem? (i := 1583) (by decide +kernel), rfl⟩, fun _ => List.mem_of_getElem? (i := 1582) (by decide +kernel), fun h => absurd rfl h, fun h => by cases h, fun h => by cases h, by decide +kernel⟩
theorem mf_Lw_led : mj_facts 50075044 yL_led cL_led (some .int) 0 := ⟨⟨List.mem_of_getElem? (i := 117) (by decide +kernel), by decide +kernel, rfl, by decide +kernel, by decide +kernel, by decide +kernel⟩, fun h => absurd h (by decide +kernel), fun _ => ⟨List.mem_of_getElem? (i := 1590) (by decide +kernel), rfl⟩, fun _ => List.mem_of_getElem? (i := 1589) (by decide +kernel), fun h => absurd rfl h, fun h => by cases h, fun h => by cases h, by decide +kernel⟩
theorem mf_Lw_log : mj_facts 50206116 yL_log cL_log (some .int) 0 := ⟨⟨List.mem_of_getElem? (i := 117) (by decide +kernel), by decide +kernel, rfl, by decide +kernel, by decide +kernel, by decide +kernel⟩, fun h => absurd h (by decide +kernel), fun _ => ⟨List.mem_of_getElem? (i := 1613) (by decide +kernel), rfl⟩, fun _ => List.mem_of_getElem? (i := 1612) (by decide +kernel), fun h => absurd rfl h, fun h => by cases h, fun h => by cases h, by decide +kernel⟩
theorem mf_JInt_bitCount : mj_facts 50464193 yJ6_bitCount_0f7a4 cJ6_bitCount_0f7a4 (some .int) 0 := ⟨⟨List.mem_of_getElem? (i := 145) (by decide +kernel), by decide +kernel, rfl, by decide +kernel, by decide +kernel, by decide +kernel⟩, fun _ => List.mem_of_getElem? (i := 545) (by decide +kernel), fun h => absurd (by decide +kernel) h, fun _ => List.mem_of_getElem? (i := 544) (by decide +kernel), fun h => absurd rfl h, fun h => by cases h, fun h => by cases h, by decide +kernel⟩
def mj_okM (j : Nat) : Prop := ∀ e, mj_m j = some e → mj_facts j e.1 e.2.1 e.2.2.1 e.2.2.2.2.1
def mj_okB (q : Nat × List (Nat × mj_B × Nat)) : Prop := ∀ e, mj_m q.1 = some e → mj_ck (q.1 / 32 % 32) e.2.1 e.2.2.1 (decide (e.2.2.2.2.1 = 2)) q.2 = true
theorem mj_okM_of {j : Nat} {e : MethodName × ByteArray × Option FieldType × Bool × Nat × Nat} (he : mj_m j = some e) (h : mj_facts j e.1 e.2.1 e.2.2.1 e.2.2.2.2.1) : mj_okM j := fun e' he' => by
  have q := Option.some.inj (he.symm.trans he')
  rw [← q]; exact h
theorem mj_okB_of {q : Nat × List (Nat × mj_B × Nat)} {e : MethodName × ByteArray × Option FieldType × Bool × Nat × Nat} (he : mj_m q.1 = some e) (h : mj_ck (q.1 / 32 % 32) e.2.1 e.2.2.1 (decide (e.2.2.2.2.1 = 2)) q.2 = true) : mj_okB q := fun e' he' => by
  have z := Option.some.inj (he.symm.trans he')
  rw [← z]; exact h
theorem me_Main_init : mj_m 2336 = some (yX11_init, cX11_init, none, false, 2, 150) := by rfl
theorem mo_Main_init : mj_okM 2336 := mj_okM_of me_Main_init mf_Main_init
theorem mb_Main_init : mj_okB (2336, bl_Main_init) := mj_okB_of me_Main_init ck_Main_init
theorem me_Main_feed : mj_m 137509 = some (yX11_feed, cX11_feed, some .int, false, 1, 514) := by rfl
theorem mo_Main_feed : mj_okM 137509 := mj_okM_of me_Main_feed mf_Main_feed
theorem mb_Main_feed : mj_okB (137509, bl_Main_feed) := mj_okB_of me_Main_feed ck_Main_feed
theorem me_Main_end : mj_m 330017 = some (yX11_end, cX11_end, some .boolean, false, 1, 522) := by rfl
theorem mo_Main_end : mj_okM 330017 := mj_okM_of me_Main_end mf_Main_end
theorem mb_Main_end : mj_okB (330017, bl_Main_end) := mj_okB_of me_Main_end ck_Main_end
theorem me_Main_holt : mj_m 395552 = some (yX11_holt, cX11_holt, some .int, false, 1, 663) := by rfl
theorem mo_Main_holt : mj_okM 395552 := mj_okM_of me_Main_holt mf_Main_holt
theorem mb_Main_holt : mj_okB (395552, bl_Main_holt) := mj_okB_of me_Main_holt ck_Main_holt
theorem me_Main_law : mj_m 526624 = some (yX11_law, cX11_law, some .int, false, 1, 922) := by rfl
theorem mo_Main_law : mj_okM 526624 := mj_okM_of me_Main_law mf_Main_law
theorem mb_Main_law : mj_okB (526624, bl_Main_law) := mj_okB_of me_Main_law ck_Main_law
theorem me_Main_fault : mj_m 656672 = some (yX11_fault, cX11_fault, some .int, false, 1, 526) := by rfl
theorem mo_Main_fault : mj_okM 656672 := mj_okM_of me_Main_fault mf_Main_fault
theorem mb_Main_fault : mj_okB (656672, bl_Main_fault) := mj_okB_of me_Main_fault ck_Main_fault
theorem me_Main_bed : mj_m 789794 = some (yX11_bed, cX11_bed, some .int, false, 1, 992) := by rfl
theorem mo_Main_bed : mj_okM 789794 := mj_okM_of me_Main_bed mf_Main_bed
theorem mb_Main_bed : mj_okB (789794, bl_Main_bed) := mj_okB_of me_Main_bed ck_Main_bed
theorem me_Main_basket : mj_m 921890 = some (yX11_basket, cX11_basket, some .int, false, 1, 1079) := by rfl
theorem mo_Main_basket : mj_okM 921890 := mj_okM_of me_Main_basket mf_Main_basket
theorem mb_Main_basket : mj_okB (921890, bl_Main_basket) := mj_okB_of me_Main_basket ck_Main_basket
theorem me_Main_run : mj_m 1051938 = some (yX11_run, cX11_run, some .int, false, 1, 1146) := by rfl
theorem mo_Main_run : mj_okM 1051938 := mj_okM_of me_Main_run mf_Main_run
theorem mb_Main_run : mj_okB (1051938, bl_Main_run) := mj_okB_of me_Main_run ck_Main_run
theorem me_Main_over : mj_m 1250595 = some (yX11_over, cX11_over, some .boolean, false, 1, 1154) := by rfl
theorem mo_Main_over : mj_okM 1250595 := mj_okM_of me_Main_over mf_Main_over
theorem mb_Main_over : mj_okB (1250595, bl_Main_over) := mj_okB_of me_Main_over ck_Main_over
theorem me_Main_sound : mj_m 1378593 = some (yX11_sound, cX11_sound, some .boolean, false, 1, 1163) := by rfl
theorem mo_Main_sound : mj_okM 1378593 := mj_okM_of me_Main_sound mf_Main_sound
theorem mb_Main_sound : mj_okB (1378593, bl_Main_sound) := mj_okB_of me_Main_sound ck_Main_sound
theorem me_Main_store : mj_m 1444129 = some (yX11_store, cX11_store, some .int, false, 1, 1170) := by rfl
theorem mo_Main_store : mj_okM 1444129 := mj_okM_of me_Main_store mf_Main_store
theorem mb_Main_store : mj_okB (1444129, bl_Main_store) := mj_okB_of me_Main_store ck_Main_store
theorem me_Main_hand : mj_m 1576226 = some (yX11_hand, cX11_hand, some .int, false, 1, 1180) := by rfl
theorem mo_Main_hand : mj_okM 1576226 := mj_okM_of me_Main_hand mf_Main_hand
theorem mb_Main_hand : mj_okB (1576226, bl_Main_hand) := mj_okB_of me_Main_hand ck_Main_hand
theorem me_Main_order : mj_m 1707298 = some (yX11_order, cX11_order, some .int, false, 1, 1191) := by rfl
theorem mo_Main_order : mj_okM 1707298 := mj_okM_of me_Main_order mf_Main_order
theorem mb_Main_order : mj_okB (1707298, bl_Main_order) := mj_okB_of me_Main_order ck_Main_order
theorem me_Main_years : mj_m 1837345 = some (yX11_years, cX11_years, some .int, false, 1, 1204) := by rfl
theorem mo_Main_years : mj_okM 1837345 := mj_okM_of me_Main_years mf_Main_years
theorem mb_Main_years : mj_okB (1837345, bl_Main_years) := mj_okB_of me_Main_years ck_Main_years
theorem me_Main_cut : mj_m 1971489 = some (yX11_cut, cX11_cut, some .int, false, 1, 1264) := by rfl
theorem mo_Main_cut : mj_okM 1971489 := mj_okM_of me_Main_cut mf_Main_cut
theorem mb_Main_cut : mj_okB (1971489, bl_Main_cut) := mj_okB_of me_Main_cut ck_Main_cut
theorem me_Main_buy : mj_m 2100514 = some (yX11_buy, cX11_buy, some .int, false, 1, 1292) := by rfl
theorem mo_Main_buy : mj_okM 2100514 := mj_okM_of me_Main_buy mf_Main_buy
theorem mb_Main_buy : mj_okB (2100514, bl_Main_buy) := mj_okB_of me_Main_buy ck_Main_buy
theorem me_Main_sell : mj_m 2231586 = some (yX11_sell, cX11_sell, some .int, false, 1, 1299) := by rfl
theorem mo_Main_sell : mj_okM 2231586 := mj_okM_of me_Main_sell mf_Main_sell
theorem mb_Main_sell : mj_okB (2231586, bl_Main_sell) := mj_okB_of me_Main_sell ck_Main_sell
theorem me_Main_take : mj_m 2362658 = some (yX11_take, cX11_take, some .int, false, 1, 1307) := by rfl
theorem mo_Main_take : mj_okM 2362658 := mj_okM_of me_Main_take mf_Main_take
theorem mb_Main_take : mj_okB (2362658, bl_Main_take) := mj_okB_of me_Main_take ck_Main_take
theorem me_Main_drop : mj_m 2492705 = some (yX11_drop, cX11_drop, none, false, 1, 1315) := by rfl
theorem mo_Main_drop : mj_okM 2492705 := mj_okM_of me_Main_drop mf_Main_drop
theorem mb_Main_drop : mj_okB (2492705, bl_Main_drop) := mj_okB_of me_Main_drop ck_Main_drop
theorem me_Main_drain : mj_m 2625826 = some (yX11_drain, cX11_drain, some .int, false, 1, 1323) := by rfl
theorem mo_Main_drain : mj_okM 2625826 := mj_okM_of me_Main_drain mf_Main_drain
theorem mb_Main_drain : mj_okB (2625826, bl_Main_drain) := mj_okB_of me_Main_drain ck_Main_drain
theorem me_Main_hire : mj_m 2755874 = some (yX11_hire, cX11_hire, some .int, false, 1, 1330) := by rfl
theorem mo_Main_hire : mj_okM 2755874 := mj_okM_of me_Main_hire mf_Main_hire
theorem mb_Main_hire : mj_okB (2755874, bl_Main_hire) := mj_okB_of me_Main_hire ck_Main_hire
theorem me_Main_teach : mj_m 2885921 = some (yX11_teach, cX11_teach, some .int, false, 1, 1338) := by rfl
theorem mo_Main_teach : mj_okM 2885921 := mj_okM_of me_Main_teach mf_Main_teach
theorem mb_Main_teach : mj_okB (2885921, bl_Main_teach) := mj_okB_of me_Main_teach ck_Main_teach
theorem me_Main_make : mj_m 3016993 = some (yX11_make, cX11_make, some .int, false, 1, 1345) := by rfl
theorem mo_Main_make : mj_okM 3016993 := mj_okM_of me_Main_make mf_Main_make
theorem mb_Main_make : mj_okB (3016993, bl_Main_make) := mj_okB_of me_Main_make ck_Main_make
theorem me_Main_gain : mj_m 3149090 = some (yX11_gain, cX11_gain, some .int, false, 1, 1354) := by rfl
theorem mo_Main_gain : mj_okM 3149090 := mj_okM_of me_Main_gain mf_Main_gain
theorem mb_Main_gain : mj_okB (3149090, bl_Main_gain) := mj_okB_of me_Main_gain ck_Main_gain
theorem me_Main_cuts : mj_m 3280162 = some (yX11_cuts, cX11_cuts, some .int, false, 1, 1371) := by rfl
theorem mo_Main_cuts : mj_okM 3280162 := mj_okM_of me_Main_cuts mf_Main_cuts
theorem mb_Main_cuts : mj_okB (3280162, bl_Main_cuts) := mj_okB_of me_Main_cuts ck_Main_cuts
theorem me_Main_worth : mj_m 3409184 = some (yX11_worth, cX11_worth, some .int, false, 1, 530) := by rfl
theorem mo_Main_worth : mj_okM 3409184 := mj_okM_of me_Main_worth mf_Main_worth
theorem mb_Main_worth : mj_okB (3409184, bl_Main_worth) := mj_okB_of me_Main_worth ck_Main_worth
theorem me_Main_fills : mj_m 3540256 = some (yX11_fills, cX11_fills, some .int, false, 1, 569) := by rfl
theorem mo_Main_fills : mj_okM 3540256 := mj_okM_of me_Main_fills mf_Main_fills
theorem mb_Main_fills : mj_okB (3540256, bl_Main_fills) := mj_okB_of me_Main_fills ck_Main_fills
theorem me_Main_pieces : mj_m 3673377 = some (yX11_pieces, cX11_pieces, some .int, false, 1, 1378) := by rfl
theorem mo_Main_pieces : mj_okM 3673377 := mj_okM_of me_Main_pieces mf_Main_pieces
theorem mb_Main_pieces : mj_okB (3673377, bl_Main_pieces) := mj_okB_of me_Main_pieces ck_Main_pieces
theorem me_Main_rod : mj_m 3805474 = some (yX11_rod, cX11_rod, some .int, false, 1, 1414) := by rfl
theorem mo_Main_rod : mj_okM 3805474 := mj_okM_of me_Main_rod mf_Main_rod
theorem mb_Main_rod : mj_okB (3805474, bl_Main_rod) := mj_okB_of me_Main_rod ck_Main_rod
theorem me_Main_found : mj_m 3934497 = some (yX11_found, cX11_found, some .int, false, 1, 1421) := by rfl
theorem mo_Main_found : mj_okM 3934497 := mj_okM_of me_Main_found mf_Main_found
theorem mb_Main_found : mj_okB (3934497, bl_Main_found) := mj_okB_of me_Main_found ck_Main_found
theorem me_Main_look : mj_m 4064544 = some (yX11_look, cX11_look, some .int, false, 1, 1443) := by rfl
theorem mo_Main_look : mj_okM 4064544 := mj_okM_of me_Main_look mf_Main_look
theorem mb_Main_look : mj_okB (4064544, bl_Main_look) := mj_okB_of me_Main_look ck_Main_look
theorem me_Main_team : mj_m 4197665 = some (yX11_team, cX11_team, some .int, false, 1, 1458) := by rfl
theorem mo_Main_team : mj_okM 4197665 := mj_okM_of me_Main_team mf_Main_team
theorem mb_Main_team : mj_okB (4197665, bl_Main_team) := mj_okB_of me_Main_team ck_Main_team
theorem me_Main_pairs : mj_m 4328737 = some (yX11_pairs, cX11_pairs, some .int, false, 1, 1472) := by rfl
theorem mo_Main_pairs : mj_okM 4328737 := mj_okM_of me_Main_pairs mf_Main_pairs
theorem mb_Main_pairs : mj_okB (4328737, bl_Main_pairs) := mj_okB_of me_Main_pairs ck_Main_pairs
theorem me_Main_change : mj_m 4459810 = some (yX11_change, cX11_change, some .int, false, 1, 1486) := by rfl
theorem mo_Main_change : mj_okM 4459810 := mj_okM_of me_Main_change mf_Main_change
theorem mb_Main_change : mj_okB (4459810, bl_Main_change) := mj_okB_of me_Main_change ck_Main_change
theorem me_Main_share : mj_m 4590882 = some (yX11_share, cX11_share, some .int, false, 1, 1494) := by rfl
theorem mo_Main_share : mj_okM 4590882 := mj_okM_of me_Main_share mf_Main_share
theorem mb_Main_share : mj_okB (4590882, bl_Main_share) := mj_okB_of me_Main_share ck_Main_share
theorem me_Main_price : mj_m 4720929 = some (yX11_price, cX11_price, some .int, false, 1, 1509) := by rfl
theorem mo_Main_price : mj_okM 4720929 := mj_okM_of me_Main_price mf_Main_price
theorem mb_Main_price : mj_okB (4720929, bl_Main_price) := mj_okB_of me_Main_price ck_Main_price
theorem me_Main_rests : mj_m 4855073 = some (yX11_rests, cX11_rests, some .int, false, 1, 1524) := by rfl
theorem mo_Main_rests : mj_okM 4855073 := mj_okM_of me_Main_rests mf_Main_rests
theorem mb_Main_rests : mj_okB (4855073, bl_Main_rests) := mj_okB_of me_Main_rests ck_Main_rests
theorem me_Main_odds : mj_m 4989218 = some (yX11_odds, cX11_odds, some .int, false, 1, 1534) := by rfl
theorem mo_Main_odds : mj_okM 4989218 := mj_okM_of me_Main_odds mf_Main_odds
theorem mb_Main_odds : mj_okB (4989218, bl_Main_odds) := mj_okB_of me_Main_odds ck_Main_odds
theorem me_Main_most : mj_m 5114145 = some (yX11_most, cX11_most, some .int, false, 1, 1548) := by rfl
theorem mo_Main_most : mj_okM 5114145 := mj_okM_of me_Main_most mf_Main_most
theorem mb_Main_most : mj_okB (5114145, bl_Main_most) := mj_okB_of me_Main_most ck_Main_most
theorem me_Main_open : mj_m 5245217 = some (yX11_open, cX11_open, some .int, false, 1, 573) := by rfl
theorem mo_Main_open : mj_okM 5245217 := mj_okM_of me_Main_open mf_Main_open
theorem mb_Main_open : mj_okB (5245217, bl_Main_open) := mj_okB_of me_Main_open ck_Main_open
theorem me_Main_twins : mj_m 5375264 = some (yX11_twins, cX11_twins, some .int, false, 1, 589) := by rfl
theorem mo_Main_twins : mj_okM 5375264 := mj_okM_of me_Main_twins mf_Main_twins
theorem mb_Main_twins : mj_okB (5375264, bl_Main_twins) := mj_okB_of me_Main_twins ck_Main_twins
theorem me_Main_sort : mj_m 5507361 = some (yX11_sort, cX11_sort, some .int, false, 1, 1558) := by rfl
theorem mo_Main_sort : mj_okM 5507361 := mj_okM_of me_Main_sort mf_Main_sort
theorem mb_Main_sort : mj_okB (5507361, bl_Main_sort) := mj_okB_of me_Main_sort ck_Main_sort
theorem me_Main_lengths : mj_m 5639456 = some (yX11_lengths, cX11_lengths, some .int, false, 1, 597) := by rfl
theorem mo_Main_lengths : mj_okM 5639456 := mj_okM_of me_Main_lengths mf_Main_lengths
theorem mb_Main_lengths : mj_okB (5639456, bl_Main_lengths) := mj_okB_of me_Main_lengths ck_Main_lengths
theorem me_Main_ahead : mj_m 5771555 = some (yX11_ahead, cX11_ahead, some .int, false, 1, 1569) := by rfl
theorem mo_Main_ahead : mj_okM 5771555 := mj_okM_of me_Main_ahead mf_Main_ahead
theorem mb_Main_ahead : mj_okB (5771555, bl_Main_ahead) := mj_okB_of me_Main_ahead ck_Main_ahead
theorem me_Main_trial : mj_m 5901602 = some (yX11_trial, cX11_trial, some .int, false, 1, 1580) := by rfl
theorem mo_Main_trial : mj_okM 5901602 := mj_okM_of me_Main_trial mf_Main_trial
theorem mb_Main_trial : mj_okB (5901602, bl_Main_trial) := mj_okB_of me_Main_trial ck_Main_trial
theorem me_Main_span : mj_m 6034722 = some (yX11_span, cX11_span, some .int, false, 1, 1587) := by rfl
theorem mo_Main_span : mj_okM 6034722 := mj_okM_of me_Main_span mf_Main_span
theorem mb_Main_span : mj_okB (6034722, bl_Main_span) := mj_okB_of me_Main_span ck_Main_span
theorem me_Main_led : mj_m 6163746 = some (yX11_led, cX11_led, some .int, false, 1, 1594) := by rfl
theorem mo_Main_led : mj_okM 6163746 := mj_okM_of me_Main_led mf_Main_led
theorem mb_Main_led : mj_okB (6163746, bl_Main_led) := mj_okB_of me_Main_led ck_Main_led
theorem me_Main_log : mj_m 6294818 = some (yX11_log, cX11_log, some .int, false, 1, 1617) := by rfl
theorem mo_Main_log : mj_okM 6294818 := mj_okM_of me_Main_log mf_Main_log
theorem mb_Main_log : mj_okB (6294818, bl_Main_log) := mj_okB_of me_Main_log ck_Main_log
theorem me_Main_seed : mj_m 6425889 = some (yX11_seed, cX11_seed, some .int, false, 1, 601) := by rfl
theorem mo_Main_seed : mj_okM 6425889 := mj_okM_of me_Main_seed mf_Main_seed
theorem mb_Main_seed : mj_okB (6425889, bl_Main_seed) := mj_okB_of me_Main_seed ck_Main_seed
theorem me_Main_undo : mj_m 6621472 = some (yX11_undo, cX11_undo, some .boolean, false, 1, 605) := by rfl
theorem mo_Main_undo : mj_okM 6621472 := mj_okM_of me_Main_undo mf_Main_undo
theorem mb_Main_undo : mj_okB (6621472, bl_Main_undo) := mj_okB_of me_Main_undo ck_Main_undo
theorem me_Main_image : mj_m 6685984 = some (yX11_image, cX11_image, none, false, 1, 641) := by rfl
theorem mo_Main_image : mj_okM 6685984 := mj_okM_of me_Main_image mf_Main_image
theorem mb_Main_image : mj_okB (6685984, bl_Main_image) := mj_okB_of me_Main_image ck_Main_image
theorem me_Main_back : mj_m 6882592 = some (yX11_back, cX11_back, some .boolean, false, 1, 650) := by rfl
theorem mo_Main_back : mj_okM 6882592 := mj_okM_of me_Main_back mf_Main_back
theorem mb_Main_back : mj_okB (6882592, bl_Main_back) := mj_okB_of me_Main_back ck_Main_back
theorem me_Main_count : mj_m 6949153 = some (yX11_count, cX11_count, some .int, false, 1, 654) := by rfl
theorem mo_Main_count : mj_okM 6949153 := mj_okM_of me_Main_count mf_Main_count
theorem mb_Main_count : mj_okB (6949153, bl_Main_count) := mj_okB_of me_Main_count ck_Main_count
theorem me_Main_needBed : mj_m 7080225 = some (yX11_needBed, cX11_needBed, none, false, 1, 996) := by rfl
theorem mo_Main_needBed : mj_okM 7080225 := mj_okM_of me_Main_needBed mf_Main_needBed
theorem mb_Main_needBed : mj_okB (7080225, bl_Main_needBed) := mj_okB_of me_Main_needBed ck_Main_needBed
theorem me_Main_needBasket : mj_m 7211297 = some (yX11_needBasket, cX11_needBasket, none, false, 1, 1083) := by rfl
theorem mo_Main_needBasket : mj_okM 7211297 := mj_okM_of me_Main_needBasket mf_Main_needBasket
theorem mb_Main_needBasket : mj_okB (7211297, bl_Main_needBasket) := mj_okB_of me_Main_needBasket ck_Main_needBasket
theorem me_Main_needHand : mj_m 7342369 = some (yX11_needHand, cX11_needHand, none, false, 1, 1184) := by rfl
theorem mo_Main_needHand : mj_okM 7342369 := mj_okM_of me_Main_needHand mf_Main_needHand
theorem mb_Main_needHand : mj_okB (7342369, bl_Main_needHand) := mj_okB_of me_Main_needHand ck_Main_needHand
theorem me_Main_needOrder : mj_m 7473441 = some (yX11_needOrder, cX11_needOrder, none, false, 1, 1195) := by rfl
theorem mo_Main_needOrder : mj_okM 7473441 := mj_okM_of me_Main_needOrder mf_Main_needOrder
theorem mb_Main_needOrder : mj_okB (7473441, bl_Main_needOrder) := mj_okB_of me_Main_needOrder ck_Main_needOrder
theorem me_Main_needFeet : mj_m 7603489 = some (yX11_needFeet, cX11_needFeet, none, false, 0, 1173) := by rfl
theorem mo_Main_needFeet : mj_okM 7603489 := mj_okM_of me_Main_needFeet mf_Main_needFeet
theorem mb_Main_needFeet : mj_okB (7603489, bl_Main_needFeet) := mj_okB_of me_Main_needFeet ck_Main_needFeet
theorem me_Main_needIndex : mj_m 7736611 = some (yX11_needIndex, cX11_needIndex, none, false, 0, 999) := by rfl
theorem mo_Main_needIndex : mj_okM 7736611 := mj_okM_of me_Main_needIndex mf_Main_needIndex
theorem mb_Main_needIndex : mj_okB (7736611, bl_Main_needIndex) := mj_okB_of me_Main_needIndex ck_Main_needIndex
theorem me_Main_needWithin : mj_m 7867683 = some (yX11_needWithin, cX11_needWithin, none, false, 0, 1207) := by rfl
theorem mo_Main_needWithin : mj_okM 7867683 := mj_okM_of me_Main_needWithin mf_Main_needWithin
theorem mb_Main_needWithin : mj_okB (7867683, bl_Main_needWithin) := mj_okB_of me_Main_needWithin ck_Main_needWithin
theorem me_Main_needTape : mj_m 7996705 = some (yX11_needTape, cX11_needTape, none, false, 0, 1390) := by rfl
theorem mo_Main_needTape : mj_okM 7996705 := mj_okM_of me_Main_needTape mf_Main_needTape
theorem mb_Main_needTape : mj_okB (7996705, bl_Main_needTape) := mj_okB_of me_Main_needTape ck_Main_needTape
theorem me_Main_needPossible : mj_m 8127777 = some (yX11_needPossible, cX11_needPossible, none, false, 0, 1267) := by rfl
theorem mo_Main_needPossible : mj_okM 8127777 := mj_okM_of me_Main_needPossible mf_Main_needPossible
theorem mb_Main_needPossible : mj_okB (8127777, bl_Main_needPossible) := mj_okB_of me_Main_needPossible ck_Main_needPossible
theorem me_Main_remember : mj_m 8259872 = some (yX11_remember, cX11_remember, none, false, 1, 1212) := by rfl
theorem mo_Main_remember : mj_okM 8259872 := mj_okM_of me_Main_remember mf_Main_remember
theorem mb_Main_remember : mj_okB (8259872, bl_Main_remember) := mj_okB_of me_Main_remember ck_Main_remember
theorem me_Main_restBit : mj_m 8394021 = some (yX11_restBit, cX11_restBit, some .int, false, 0, 1527) := by rfl
theorem mo_Main_restBit : mj_okM 8394021 := mj_okM_of me_Main_restBit mf_Main_restBit
theorem mb_Main_restBit : mj_okB (8394021, bl_Main_restBit) := mj_okB_of me_Main_restBit ck_Main_restBit
theorem me_Main_chanceOf : mj_m 8526114 = some (yX11_chanceOf, cX11_chanceOf, some .long, false, 1, 1539) := by rfl
theorem mo_Main_chanceOf : mj_okM 8526114 := mj_okM_of me_Main_chanceOf mf_Main_chanceOf
theorem mb_Main_chanceOf : mj_okB (8526114, bl_Main_chanceOf) := mj_okB_of me_Main_chanceOf ck_Main_chanceOf
theorem me_Main_firstGreatest : mj_m 8655138 = some (yX11_firstGreatest, cX11_firstGreatest, some .int, false, 0, 1551) := by rfl
theorem mo_Main_firstGreatest : mj_okM 8655138 := mj_okM_of me_Main_firstGreatest mf_Main_firstGreatest
theorem mb_Main_firstGreatest : mj_okB (8655138, bl_Main_firstGreatest) := mj_okB_of me_Main_firstGreatest ck_Main_firstGreatest
theorem me_Mod_init : mj_m 8783168 = some (yX12_init, cX12_init, none, false, 2, 1623) := by rfl
theorem mo_Mod_init : mj_okM 8783168 := mj_okM_of me_Mod_init mf_Mod_init
theorem mb_Mod_init : mj_okB (8783168, bl_Mod_init) := mj_okB_of me_Mod_init ck_Mod_init
theorem me_Mod_thrown : mj_m 8914240 = some (yX12_thrown, cX12_thrown, some .int, false, 1, 1705) := by rfl
theorem mo_Mod_thrown : mj_okM 8914240 := mj_okM_of me_Mod_thrown mf_Mod_thrown
theorem mb_Mod_thrown : mj_okB (8914240, bl_Mod_thrown) := mj_okB_of me_Mod_thrown ck_Mod_thrown
theorem me_Mod_isIn : mj_m 9112899 = some (yX12_isIn, cX12_isIn, some .boolean, false, 0, 1716) := by rfl
theorem mo_Mod_isIn : mj_okM 9112899 := mj_okM_of me_Mod_isIn mf_Mod_isIn
theorem mb_Mod_isIn : mj_okB (9112899, bl_Mod_isIn) := mj_okB_of me_Mod_isIn ck_Mod_isIn
theorem me_Mod_lesser : mj_m 9177410 = some (yX12_lesser, cX12_lesser, some .int, false, 0, 1909) := by rfl
theorem mo_Mod_lesser : mj_okM 9177410 := mj_okM_of me_Mod_lesser mf_Mod_lesser
theorem mb_Mod_lesser : mj_okB (9177410, bl_Mod_lesser) := mj_okB_of me_Mod_lesser ck_Mod_lesser
theorem me_Mod_greater : mj_m 9308482 = some (yX12_greater, cX12_greater, some .int, false, 0, 1912) := by rfl
theorem mo_Mod_greater : mj_okM 9308482 := mj_okM_of me_Mod_greater mf_Mod_greater
theorem mb_Mod_greater : mj_okB (9308482, bl_Mod_greater) := mj_okB_of me_Mod_greater ck_Mod_greater
theorem me_Mod_isOf : mj_m 9505090 = some (yX12_isOf, cX12_isOf, some .boolean, false, 0, 2141) := by rfl
theorem mo_Mod_isOf : mj_okM 9505090 := mj_okM_of me_Mod_isOf mf_Mod_isOf
theorem mb_Mod_isOf : mj_okB (9505090, bl_Mod_isOf) := mj_okB_of me_Mod_isOf ck_Mod_isOf
theorem me_Mod_bits : mj_m 9571649 = some (yX12_bits, cX12_bits, some .int, false, 0, 2144) := by rfl
theorem mo_Mod_bits : mj_okM 9571649 := mj_okM_of me_Mod_bits mf_Mod_bits
theorem mb_Mod_bits : mj_okB (9571649, bl_Mod_bits) := mj_okB_of me_Mod_bits ck_Mod_bits
theorem me_Mod_ofBed : mj_m 9702722 = some (yX12_ofBed, cX12_ofBed, some .int, false, 1, 1898) := by rfl
theorem mo_Mod_ofBed : mj_okM 9702722 := mj_okM_of me_Mod_ofBed mf_Mod_ofBed
theorem mb_Mod_ofBed : mj_okB (9702722, bl_Mod_ofBed) := mj_okB_of me_Mod_ofBed ck_Mod_ofBed
theorem me_Mod_ofBasket : mj_m 9833794 = some (yX12_ofBasket, cX12_ofBasket, some .int, false, 1, 1932) := by rfl
theorem mo_Mod_ofBasket : mj_okM 9833794 := mj_okM_of me_Mod_ofBasket mf_Mod_ofBasket
theorem mb_Mod_ofBasket : mj_okB (9833794, bl_Mod_ofBasket) := mj_okB_of me_Mod_ofBasket ck_Mod_ofBasket
theorem me_Mod_skill : mj_m 9963841 = some (yX12_skill, cX12_skill, some .int, false, 1, 2025) := by rfl
theorem mo_Mod_skill : mj_okM 9963841 := mj_okM_of me_Mod_skill mf_Mod_skill
theorem mb_Mod_skill : mj_okB (9963841, bl_Mod_skill) := mj_okB_of me_Mod_skill ck_Mod_skill
theorem me_Mod_wage : mj_m 10094913 = some (yX12_wage, cX12_wage, some .int, false, 1, 2021) := by rfl
theorem mo_Mod_wage : mj_okM 10094913 := mj_okM_of me_Mod_wage mf_Mod_wage
theorem mb_Mod_wage : mj_okB (10094913, bl_Mod_wage) := mj_okB_of me_Mod_wage ck_Mod_wage
theorem me_Mod_ofOrder : mj_m 10227010 = some (yX12_ofOrder, cX12_ofOrder, some .int, false, 1, 2037) := by rfl
theorem mo_Mod_ofOrder : mj_okM 10227010 := mj_okM_of me_Mod_ofOrder mf_Mod_ofOrder
theorem mb_Mod_ofOrder : mj_okB (10227010, bl_Mod_ofOrder) := mj_okB_of me_Mod_ofOrder ck_Mod_ofOrder
theorem me_Mod_stored : mj_m 10357057 = some (yX12_stored, cX12_stored, some .int, false, 1, 2009) := by rfl
theorem mo_Mod_stored : mj_okM 10357057 := mj_okM_of me_Mod_stored mf_Mod_stored
theorem mb_Mod_stored : mj_okB (10357057, bl_Mod_stored) := mj_okB_of me_Mod_stored ck_Mod_stored
theorem me_Mod_isBed : mj_m 10553665 = some (yX12_isBed, cX12_isBed, some .boolean, false, 1, 1894) := by rfl
theorem mo_Mod_isBed : mj_okM 10553665 := mj_okM_of me_Mod_isBed mf_Mod_isBed
theorem mb_Mod_isBed : mj_okB (10553665, bl_Mod_isBed) := mj_okB_of me_Mod_isBed ck_Mod_isBed
theorem me_Mod_isBasket : mj_m 10684737 = some (yX12_isBasket, cX12_isBasket, some .boolean, false, 1, 1928) := by rfl
theorem mo_Mod_isBasket : mj_okM 10684737 := mj_okM_of me_Mod_isBasket mf_Mod_isBasket
theorem mb_Mod_isBasket : mj_okB (10684737, bl_Mod_isBasket) := mj_okB_of me_Mod_isBasket ck_Mod_isBasket
theorem me_Mod_isHand : mj_m 10815809 = some (yX12_isHand, cX12_isHand, some .boolean, false, 1, 2017) := by rfl
theorem mo_Mod_isHand : mj_okM 10815809 := mj_okM_of me_Mod_isHand mf_Mod_isHand
theorem mb_Mod_isHand : mj_okB (10815809, bl_Mod_isHand) := mj_okB_of me_Mod_isHand ck_Mod_isHand
theorem me_Mod_isOrder : mj_m 10946881 = some (yX12_isOrder, cX12_isOrder, some .boolean, false, 1, 2033) := by rfl
theorem mo_Mod_isOrder : mj_okM 10946881 := mj_okM_of me_Mod_isOrder mf_Mod_isOrder
theorem mb_Mod_isOrder : mj_okB (10946881, bl_Mod_isOrder) := mj_okB_of me_Mod_isOrder ck_Mod_isOrder
theorem me_Mod_feed : mj_m 11018565 = some (yX12_feed, cX12_feed, some .int, false, 1, 1709) := by rfl
theorem mo_Mod_feed : mj_okM 11018565 := mj_okM_of me_Mod_feed mf_Mod_feed
theorem mb_Mod_feed : mj_okB (11018565, bl_Mod_feed) := mj_okB_of me_Mod_feed ck_Mod_feed
theorem me_Mod_end : mj_m 11209025 = some (yX12_end, cX12_end, some .boolean, false, 1, 1713) := by rfl
theorem mo_Mod_end : mj_okM 11209025 := mj_okM_of me_Mod_end mf_Mod_end
theorem mb_Mod_end : mj_okB (11209025, bl_Mod_end) := mj_okB_of me_Mod_end ck_Mod_end
theorem me_Mod_letter : mj_m 11274561 = some (yX12_letter, cX12_letter, some .int, false, 1, 1740) := by rfl
theorem mo_Mod_letter : mj_okM 11274561 := mj_okM_of me_Mod_letter mf_Mod_letter
theorem mb_Mod_letter : mj_okB (11274561, bl_Mod_letter) := mj_okB_of me_Mod_letter ck_Mod_letter
theorem me_Mod_skip : mj_m 11404608 = some (yX12_skip, cX12_skip, none, false, 1, 1736) := by rfl
theorem mo_Mod_skip : mj_okM 11404608 := mj_okM_of me_Mod_skip mf_Mod_skip
theorem mb_Mod_skip : mj_okB (11404608, bl_Mod_skip) := mj_okB_of me_Mod_skip ck_Mod_skip
theorem me_Mod_isSign : mj_m 11602241 = some (yX12_isSign, cX12_isSign, some .boolean, false, 1, 1783) := by rfl
theorem mo_Mod_isSign : mj_okM 11602241 := mj_okM_of me_Mod_isSign mf_Mod_isSign
theorem mb_Mod_isSign : mj_okB (11602241, bl_Mod_isSign) := mj_okB_of me_Mod_isSign ck_Mod_isSign
theorem me_Mod_has : mj_m 11735361 = some (yX12_has, cX12_has, some .boolean, false, 1, 1753) := by rfl
theorem mo_Mod_has : mj_okM 11735361 := mj_okM_of me_Mod_has mf_Mod_has
theorem mb_Mod_has : mj_okB (11735361, bl_Mod_has) := mj_okB_of me_Mod_has ck_Mod_has
theorem me_Mod_wrong : mj_m 11798849 = some (yX12_wrong, cX12_wrong, none, false, 1, 1744) := by rfl
theorem mo_Mod_wrong : mj_okM 11798849 := mj_okM_of me_Mod_wrong mf_Mod_wrong
theorem mb_Mod_wrong : mj_okB (11798849, bl_Mod_wrong) := mj_okB_of me_Mod_wrong ck_Mod_wrong
theorem me_Mod_here : mj_m 11928896 = some (yX12_here, cX12_here, some .int, false, 1, 1765) := by rfl
theorem mo_Mod_here : mj_okM 11928896 := mj_okM_of me_Mod_here mf_Mod_here
theorem mb_Mod_here : mj_okB (11928896, bl_Mod_here) := mj_okB_of me_Mod_here ck_Mod_here
theorem me_Mod_figures : mj_m 12064066 = some (yX12_figures, cX12_figures, some .int, false, 1, 1761) := by rfl
theorem mo_Mod_figures : mj_okM 12064066 := mj_okM_of me_Mod_figures mf_Mod_figures
theorem mb_Mod_figures : mj_okB (12064066, bl_Mod_figures) := mj_okB_of me_Mod_figures ck_Mod_figures
theorem me_Mod_after : mj_m 12194115 = some (yX12_after, cX12_after, some .int, false, 1, 1826) := by rfl
theorem mo_Mod_after : mj_okM 12194115 := mj_okM_of me_Mod_after mf_Mod_after
theorem mb_Mod_after : mj_okB (12194115, bl_Mod_after) := mj_okB_of me_Mod_after ck_Mod_after
theorem me_Mod_expects : mj_m 12389697 = some (yX12_expects, cX12_expects, some .boolean, false, 1, 1838) := by rfl
theorem mo_Mod_expects : mj_okM 12389697 := mj_okM_of me_Mod_expects mf_Mod_expects
theorem mb_Mod_expects : mj_okB (12389697, bl_Mod_expects) := mj_okB_of me_Mod_expects ck_Mod_expects
theorem me_Mod_sortWord : mj_m 12455232 = some (yX12_sortWord, cX12_sortWord, some .int, false, 1, 1819) := by rfl
theorem mo_Mod_sortWord : mj_okM 12455232 := mj_okM_of me_Mod_sortWord mf_Mod_sortWord
theorem mb_Mod_sortWord : mj_okB (12455232, bl_Mod_sortWord) := mj_okB_of me_Mod_sortWord ck_Mod_sortWord
theorem me_Mod_bedLine : mj_m 12590401 = some (yX12_bedLine, cX12_bedLine, none, false, 1, 1815) := by rfl
theorem mo_Mod_bedLine : mj_okM 12590401 := mj_okM_of me_Mod_bedLine mf_Mod_bedLine
theorem mb_Mod_bedLine : mj_okB (12590401, bl_Mod_bedLine) := mj_okB_of me_Mod_bedLine ck_Mod_bedLine
theorem me_Mod_isFigure : mj_m 12780864 = some (yX12_isFigure, cX12_isFigure, some .boolean, false, 1, 1842) := by rfl
theorem mo_Mod_isFigure : mj_okM 12780864 := mj_okM_of me_Mod_isFigure mf_Mod_isFigure
theorem mb_Mod_isFigure : mj_okB (12780864, bl_Mod_isFigure) := mj_okB_of me_Mod_isFigure ck_Mod_isFigure
theorem me_Mod_basketLine : mj_m 12854593 = some (yX12_basketLine, cX12_basketLine, none, false, 1, 1831) := by rfl
theorem mo_Mod_basketLine : mj_okM 12854593 := mj_okM_of me_Mod_basketLine mf_Mod_basketLine
theorem mb_Mod_basketLine : mj_okB (12854593, bl_Mod_basketLine) := mj_okB_of me_Mod_basketLine ck_Mod_basketLine
theorem me_Mod_rodsLine : mj_m 12979520 = some (yX12_rodsLine, cX12_rodsLine, none, false, 1, 1849) := by rfl
theorem mo_Mod_rodsLine : mj_okM 12979520 := mj_okM_of me_Mod_rodsLine mf_Mod_rodsLine
theorem mb_Mod_rodsLine : mj_okB (12979520, bl_Mod_rodsLine) := mj_okB_of me_Mod_rodsLine ck_Mod_rodsLine
theorem me_Mod_handLine : mj_m 13111617 = some (yX12_handLine, cX12_handLine, none, false, 1, 1854) := by rfl
theorem mo_Mod_handLine : mj_okM 13111617 := mj_okM_of me_Mod_handLine mf_Mod_handLine
theorem mb_Mod_handLine : mj_okB (13111617, bl_Mod_handLine) := mj_okB_of me_Mod_handLine ck_Mod_handLine
theorem me_Mod_hires : mj_m 13241666 = some (yX12_hires, cX12_hires, none, false, 1, 1860) := by rfl
theorem mo_Mod_hires : mj_okM 13241666 := mj_okM_of me_Mod_hires mf_Mod_hires
theorem mb_Mod_hires : mj_okB (13241666, bl_Mod_hires) := mj_okB_of me_Mod_hires ck_Mod_hires
theorem me_Mod_orderLine : mj_m 13373761 = some (yX12_orderLine, cX12_orderLine, none, false, 1, 1865) := by rfl
theorem mo_Mod_orderLine : mj_okM 13373761 := mj_okM_of me_Mod_orderLine mf_Mod_orderLine
theorem mb_Mod_orderLine : mj_okB (13373761, bl_Mod_orderLine) := mj_okB_of me_Mod_orderLine ck_Mod_orderLine
theorem me_Mod_takes : mj_m 13504834 = some (yX12_takes, cX12_takes, none, false, 1, 1869) := by rfl
theorem mo_Mod_takes : mj_okM 13504834 := mj_okM_of me_Mod_takes mf_Mod_takes
theorem mb_Mod_takes : mj_okB (13504834, bl_Mod_takes) := mj_okB_of me_Mod_takes ck_Mod_takes
theorem me_Mod_tells : mj_m 13636931 = some (yX12_tells, cX12_tells, none, false, 1, 1874) := by rfl
theorem mo_Mod_tells : mj_okM 13636931 := mj_okM_of me_Mod_tells mf_Mod_tells
theorem mb_Mod_tells : mj_okB (13636931, bl_Mod_tells) := mj_okB_of me_Mod_tells ck_Mod_tells
theorem me_Mod_holtLine : mj_m 13764928 = some (yX12_holtLine, cX12_holtLine, none, false, 1, 1811) := by rfl
theorem mo_Mod_holtLine : mj_okM 13764928 := mj_okM_of me_Mod_holtLine mf_Mod_holtLine
theorem mb_Mod_holtLine : mj_okB (13764928, bl_Mod_holtLine) := mj_okB_of me_Mod_holtLine ck_Mod_holtLine
theorem me_Mod_begins : mj_m 13894976 = some (yX12_begins, cX12_begins, none, false, 1, 1728) := by rfl
theorem mo_Mod_begins : mj_okM 13894976 := mj_okM_of me_Mod_begins mf_Mod_begins
theorem mb_Mod_begins : mj_okB (13894976, bl_Mod_begins) := mj_okB_of me_Mod_begins ck_Mod_begins
theorem me_Mod_read : mj_m 14029121 = some (yX12_read, cX12_read, some .int, false, 1, 1732) := by rfl
theorem mo_Mod_read : mj_okM 14029121 := mj_okM_of me_Mod_read mf_Mod_read
theorem mb_Mod_read : mj_okB (14029121, bl_Mod_read) := mj_okB_of me_Mod_read ck_Mod_read
theorem me_Mod_putsAside : mj_m 14158144 = some (yX12_putsAside, cX12_putsAside, none, false, 1, 1724) := by rfl
theorem mo_Mod_putsAside : mj_okM 14158144 := mj_okM_of me_Mod_putsAside mf_Mod_putsAside
theorem mb_Mod_putsAside : mj_okB (14158144, bl_Mod_putsAside) := mj_okB_of me_Mod_putsAside ck_Mod_putsAside
theorem me_Mod_comesBack : mj_m 14289216 = some (yX12_comesBack, cX12_comesBack, none, false, 1, 1878) := by rfl
theorem mo_Mod_comesBack : mj_okM 14289216 := mj_okM_of me_Mod_comesBack mf_Mod_comesBack
theorem mb_Mod_comesBack : mj_okB (14289216, bl_Mod_comesBack) := mj_okB_of me_Mod_comesBack ck_Mod_comesBack
theorem me_Mod_holt : mj_m 14420288 = some (yX12_holt, cX12_holt, some .int, false, 1, 1720) := by rfl
theorem mo_Mod_holt : mj_okM 14420288 := mj_okM_of me_Mod_holt mf_Mod_holt
theorem mb_Mod_holt : mj_okB (14420288, bl_Mod_holt) := mj_okB_of me_Mod_holt ck_Mod_holt
theorem me_Mod_part : mj_m 14551360 = some (yX12_part, cX12_part, some .int, false, 1, 1798) := by rfl
theorem mo_Mod_part : mj_okM 14551360 := mj_okM_of me_Mod_part mf_Mod_part
theorem mb_Mod_part : mj_okB (14551360, bl_Mod_part) := mj_okB_of me_Mod_part ck_Mod_part
theorem me_Mod_sum : mj_m 14682432 = some (yX12_sum, cX12_sum, some .int, false, 1, 1794) := by rfl
theorem mo_Mod_sum : mj_okM 14682432 := mj_okM_of me_Mod_sum mf_Mod_sum
theorem mb_Mod_sum : mj_okB (14682432, bl_Mod_sum) := mj_okB_of me_Mod_sum ck_Mod_sum
theorem me_Mod_plain : mj_m 14881088 = some (yX12_plain, cX12_plain, some .boolean, false, 1, 1787) := by rfl
theorem mo_Mod_plain : mj_okM 14881088 := mj_okM_of me_Mod_plain mf_Mod_plain
theorem mb_Mod_plain : mj_okB (14881088, bl_Mod_plain) := mj_okB_of me_Mod_plain ck_Mod_plain
theorem me_Mod_atom : mj_m 15012160 = some (yX12_atom, cX12_atom, some .boolean, false, 1, 1778) := by rfl
theorem mo_Mod_atom : mj_okM 15012160 := mj_okM_of me_Mod_atom mf_Mod_atom
theorem mb_Mod_atom : mj_okB (15012160, bl_Mod_atom) := mj_okB_of me_Mod_atom ck_Mod_atom
theorem me_Mod_every : mj_m 15142208 = some (yX12_every, cX12_every, some .boolean, false, 1, 1774) := by rfl
theorem mo_Mod_every : mj_okM 15142208 := mj_okM_of me_Mod_every mf_Mod_every
theorem mb_Mod_every : mj_okB (15142208, bl_Mod_every) := mj_okB_of me_Mod_every ck_Mod_every
theorem me_Mod_some : mj_m 15273280 = some (yX12_some, cX12_some, some .boolean, false, 1, 1770) := by rfl
theorem mo_Mod_some : mj_okM 15273280 := mj_okM_of me_Mod_some mf_Mod_some
theorem mb_Mod_some : mj_okB (15273280, bl_Mod_some) := mj_okB_of me_Mod_some ck_Mod_some
theorem me_Mod_lawLine : mj_m 15339840 = some (yX12_lawLine, cX12_lawLine, none, false, 1, 1748) := by rfl
theorem mo_Mod_lawLine : mj_okM 15339840 := mj_okM_of me_Mod_lawLine mf_Mod_lawLine
theorem mb_Mod_lawLine : mj_okB (15339840, bl_Mod_lawLine) := mj_okB_of me_Mod_lawLine ck_Mod_lawLine
theorem me_Mod_law : mj_m 15469888 = some (yX12_law, cX12_law, some .int, false, 1, 1882) := by rfl
theorem mo_Mod_law : mj_okM 15469888 := mj_okM_of me_Mod_law mf_Mod_law
theorem mb_Mod_law : mj_okB (15469888, bl_Mod_law) := mj_okB_of me_Mod_law ck_Mod_law
theorem me_Mod_fault : mj_m 15598912 = some (yX12_fault, cX12_fault, some .int, false, 1, 1886) := by rfl
theorem mo_Mod_fault : mj_okM 15598912 := mj_okM_of me_Mod_fault mf_Mod_fault
theorem mb_Mod_fault : mj_okB (15598912, bl_Mod_fault) := mj_okB_of me_Mod_fault ck_Mod_fault
theorem me_Mod_asks : mj_m 15733057 = some (yX12_asks, cX12_asks, none, false, 1, 1906) := by rfl
theorem mo_Mod_asks : mj_okM 15733057 := mj_okM_of me_Mod_asks mf_Mod_asks
theorem mb_Mod_asks : mj_okB (15733057, bl_Mod_asks) := mj_okB_of me_Mod_asks ck_Mod_asks
theorem me_Mod_reachOf : mj_m 15862081 = some (yX12_reachOf, cX12_reachOf, some .int, false, 1, 1902) := by rfl
theorem mo_Mod_reachOf : mj_okM 15862081 := mj_okM_of me_Mod_reachOf mf_Mod_reachOf
theorem mb_Mod_reachOf : mj_okB (15862081, bl_Mod_reachOf) := mj_okB_of me_Mod_reachOf ck_Mod_reachOf
theorem me_Mod_yieldOf : mj_m 15993153 = some (yX12_yieldOf, cX12_yieldOf, some .int, false, 1, 1916) := by rfl
theorem mo_Mod_yieldOf : mj_okM 15993153 := mj_okM_of me_Mod_yieldOf mf_Mod_yieldOf
theorem mb_Mod_yieldOf : mj_okB (15993153, bl_Mod_yieldOf) := mj_okB_of me_Mod_yieldOf ck_Mod_yieldOf
theorem me_Mod_period : mj_m 16126273 = some (yX12_period, cX12_period, some .int, false, 1, 1940) := by rfl
theorem mo_Mod_period : mj_okM 16126273 := mj_okM_of me_Mod_period mf_Mod_period
theorem mb_Mod_period : mj_okB (16126273, bl_Mod_period) := mj_okB_of me_Mod_period ck_Mod_period
theorem me_Mod_isOver : mj_m 16323906 = some (yX12_isOver, cX12_isOver, some .boolean, false, 1, 1952) := by rfl
theorem mo_Mod_isOver : mj_okM 16323906 := mj_okM_of me_Mod_isOver mf_Mod_isOver
theorem mb_Mod_isOver : mj_okB (16323906, bl_Mod_isOver) := mj_okB_of me_Mod_isOver ck_Mod_isOver
theorem me_Mod_comesAgain : mj_m 16453954 = some (yX12_comesAgain, cX12_comesAgain, some .boolean, false, 1, 1948) := by rfl
theorem mo_Mod_comesAgain : mj_okM 16453954 := mj_okM_of me_Mod_comesAgain mf_Mod_comesAgain
theorem mb_Mod_comesAgain : mj_okB (16453954, bl_Mod_comesAgain) := mj_okB_of me_Mod_comesAgain ck_Mod_comesAgain
theorem me_Mod_againOf : mj_m 16518465 = some (yX12_againOf, cX12_againOf, some .int, false, 1, 1944) := by rfl
theorem mo_Mod_againOf : mj_okM 16518465 := mj_okM_of me_Mod_againOf mf_Mod_againOf
theorem mb_Mod_againOf : mj_okB (16518465, bl_Mod_againOf) := mj_okB_of me_Mod_againOf ck_Mod_againOf
theorem me_Mod_needOf : mj_m 16649537 = some (yX12_needOf, cX12_needOf, some .int, false, 1, 1936) := by rfl
theorem mo_Mod_needOf : mj_okM 16649537 := mj_okM_of me_Mod_needOf mf_Mod_needOf
theorem mb_Mod_needOf : mj_okB (16649537, bl_Mod_needOf) := mj_okB_of me_Mod_needOf ck_Mod_needOf
theorem me_Mod_rodsOf : mj_m 16779585 = some (yX12_rodsOf, cX12_rodsOf, some .int, false, 1, 2041) := by rfl
theorem mo_Mod_rodsOf : mj_okM 16779585 := mj_okM_of me_Mod_rodsOf mf_Mod_rodsOf
theorem mb_Mod_rodsOf : mj_okB (16779585, bl_Mod_rodsOf) := mj_okB_of me_Mod_rodsOf ck_Mod_rodsOf
theorem me_Mod_feetOf : mj_m 16910657 = some (yX12_feetOf, cX12_feetOf, some .int, false, 1, 2074) := by rfl
theorem mo_Mod_feetOf : mj_okM 16910657 := mj_okM_of me_Mod_feetOf mf_Mod_feetOf
theorem mb_Mod_feetOf : mj_okB (16910657, bl_Mod_feetOf) := mj_okB_of me_Mod_feetOf ck_Mod_feetOf
theorem me_Mod_paysOf : mj_m 17041729 = some (yX12_paysOf, cX12_paysOf, some .int, false, 1, 2082) := by rfl
theorem mo_Mod_paysOf : mj_okM 17041729 := mj_okM_of me_Mod_paysOf mf_Mod_paysOf
theorem mb_Mod_paysOf : mj_okB (17041729, bl_Mod_paysOf) := mj_okB_of me_Mod_paysOf ck_Mod_paysOf
theorem me_Mod_hasRods : mj_m 17238337 = some (yX12_hasRods, cX12_hasRods, some .boolean, false, 1, 2070) := by rfl
theorem mo_Mod_hasRods : mj_okM 17238337 := mj_okM_of me_Mod_hasRods mf_Mod_hasRods
theorem mb_Mod_hasRods : mj_okB (17238337, bl_Mod_hasRods) := mj_okB_of me_Mod_hasRods ck_Mod_hasRods
theorem me_Mod_draw : mj_m 17303873 = some (yX12_draw, cX12_draw, some .int, false, 1, 2061) := by rfl
theorem mo_Mod_draw : mj_okM 17303873 := mj_okM_of me_Mod_draw mf_Mod_draw
theorem mb_Mod_draw : mj_okB (17303873, bl_Mod_draw) := mj_okB_of me_Mod_draw ck_Mod_draw
theorem me_Mod_logs : mj_m 17438019 = some (yX12_logs, cX12_logs, none, false, 1, 2086) := by rfl
theorem mo_Mod_logs : mj_okM 17438019 := mj_okM_of me_Mod_logs mf_Mod_logs
theorem mb_Mod_logs : mj_okB (17438019, bl_Mod_logs) := mj_okB_of me_Mod_logs ck_Mod_logs
theorem me_Mod_makes : mj_m 17567042 = some (yX12_makes, cX12_makes, none, false, 1, 2078) := by rfl
theorem mo_Mod_makes : mj_okM 17567042 := mj_okM_of me_Mod_makes mf_Mod_makes
theorem mb_Mod_makes : mj_okB (17567042, bl_Mod_makes) := mj_okB_of me_Mod_makes ck_Mod_makes
theorem me_Mod_ages : mj_m 17698113 = some (yX12_ages, cX12_ages, none, false, 1, 2066) := by rfl
theorem mo_Mod_ages : mj_okM 17698113 := mj_okM_of me_Mod_ages mf_Mod_ages
theorem mb_Mod_ages : mj_okB (17698113, bl_Mod_ages) := mj_okB_of me_Mod_ages ck_Mod_ages
theorem me_Mod_passes : mj_m 17831233 = some (yX12_passes, cX12_passes, some .int, false, 1, 2057) := by rfl
theorem mo_Mod_passes : mj_okM 17831233 := mj_okM_of me_Mod_passes mf_Mod_passes
theorem mb_Mod_passes : mj_okB (17831233, bl_Mod_passes) := mj_okB_of me_Mod_passes ck_Mod_passes
theorem me_Mod_goes : mj_m 17962306 = some (yX12_goes, cX12_goes, some .int, false, 1, 2053) := by rfl
theorem mo_Mod_goes : mj_okM 17962306 := mj_okM_of me_Mod_goes mf_Mod_goes
theorem mb_Mod_goes : mj_okB (17962306, bl_Mod_goes) := mj_okB_of me_Mod_goes ck_Mod_goes
theorem me_Mod_stoolsOfAll : mj_m 18091328 = some (yX12_stoolsOfAll, cX12_stoolsOfAll, some .int, false, 1, 1920) := by rfl
theorem mo_Mod_stoolsOfAll : mj_okM 18091328 := mj_okM_of me_Mod_stoolsOfAll mf_Mod_stoolsOfAll
theorem mb_Mod_stoolsOfAll : mj_okB (18091328, bl_Mod_stoolsOfAll) := mj_okB_of me_Mod_stoolsOfAll ck_Mod_stoolsOfAll
theorem me_Mod_openOnes : mj_m 18222400 = some (yX12_openOnes, cX12_openOnes, some .int, false, 1, 2164) := by rfl
theorem mo_Mod_openOnes : mj_okM 18222400 := mj_okM_of me_Mod_openOnes mf_Mod_openOnes
theorem mb_Mod_openOnes : mj_okB (18222400, bl_Mod_openOnes) := mj_okB_of me_Mod_openOnes ck_Mod_openOnes
theorem me_Mod_bed : mj_m 18353474 = some (yX12_bed, cX12_bed, some .int, false, 1, 1890) := by rfl
theorem mo_Mod_bed : mj_okM 18353474 := mj_okM_of me_Mod_bed mf_Mod_bed
theorem mb_Mod_bed : mj_okB (18353474, bl_Mod_bed) := mj_okB_of me_Mod_bed ck_Mod_bed
theorem me_Mod_looseBy : mj_m 18488642 = some (yX12_looseBy, cX12_looseBy, some .int, false, 1, 1960) := by rfl
theorem mo_Mod_looseBy : mj_okM 18488642 := mj_okM_of me_Mod_looseBy mf_Mod_looseBy
theorem mb_Mod_looseBy : mj_okB (18488642, bl_Mod_looseBy) := mj_okB_of me_Mod_looseBy ck_Mod_looseBy
theorem me_Mod_loose : mj_m 18614593 = some (yX12_loose, cX12_loose, some .int, false, 1, 1956) := by rfl
theorem mo_Mod_loose : mj_okM 18614593 := mj_okM_of me_Mod_loose mf_Mod_loose
theorem mb_Mod_loose : mj_okB (18614593, bl_Mod_loose) := mj_okB_of me_Mod_loose ck_Mod_loose
theorem me_Mod_floatOf : mj_m 18748737 = some (yX12_floatOf, cX12_floatOf, some .int, false, 1, 1964) := by rfl
theorem mo_Mod_floatOf : mj_okM 18748737 := mj_okM_of me_Mod_floatOf mf_Mod_floatOf
theorem mb_Mod_floatOf : mj_okB (18748737, bl_Mod_floatOf) := mj_okB_of me_Mod_floatOf ck_Mod_floatOf
theorem me_Mod_isSame : mj_m 18945347 = some (yX12_isSame, cX12_isSame, some .boolean, false, 1, 1972) := by rfl
theorem mo_Mod_isSame : mj_okM 18945347 := mj_okM_of me_Mod_isSame mf_Mod_isSame
theorem mb_Mod_isSame : mj_okB (18945347, bl_Mod_isSame) := mj_okB_of me_Mod_isSame ck_Mod_isSame
theorem me_Mod_dropOf : mj_m 19011905 = some (yX12_dropOf, cX12_dropOf, some .int, false, 1, 1968) := by rfl
theorem mo_Mod_dropOf : mj_okM 19011905 := mj_okM_of me_Mod_dropOf mf_Mod_dropOf
theorem mb_Mod_dropOf : mj_okB (19011905, bl_Mod_dropOf) := mj_okB_of me_Mod_dropOf ck_Mod_dropOf
theorem me_Mod_blindOf : mj_m 19142977 = some (yX12_blindOf, cX12_blindOf, some .int, false, 1, 1976) := by rfl
theorem mo_Mod_blindOf : mj_okM 19142977 := mj_okM_of me_Mod_blindOf mf_Mod_blindOf
theorem mb_Mod_blindOf : mj_okB (19142977, bl_Mod_blindOf) := mj_okB_of me_Mod_blindOf ck_Mod_blindOf
theorem me_Mod_fitOf : mj_m 19270977 = some (yX12_fitOf, cX12_fitOf, some .int, false, 1, 1980) := by rfl
theorem mo_Mod_fitOf : mj_okM 19270977 := mj_okM_of me_Mod_fitOf mf_Mod_fitOf
theorem mb_Mod_fitOf : mj_okB (19270977, bl_Mod_fitOf) := mj_okB_of me_Mod_fitOf ck_Mod_fitOf
theorem me_Mod_changeOf : mj_m 19407170 = some (yX12_changeOf, cX12_changeOf, some .int, false, 1, 1989) := by rfl
theorem mo_Mod_changeOf : mj_okM 19407170 := mj_okM_of me_Mod_changeOf mf_Mod_changeOf
theorem mb_Mod_changeOf : mj_okB (19407170, bl_Mod_changeOf) := mj_okB_of me_Mod_changeOf ck_Mod_changeOf
theorem me_Mod_nearest : mj_m 19536193 = some (yX12_nearest, cX12_nearest, some .int, false, 1, 1984) := by rfl
theorem mo_Mod_nearest : mj_okM 19536193 := mj_okM_of me_Mod_nearest mf_Mod_nearest
theorem mb_Mod_nearest : mj_okB (19536193, bl_Mod_nearest) := mj_okB_of me_Mod_nearest ck_Mod_nearest
theorem me_Mod_basket : mj_m 19664194 = some (yX12_basket, cX12_basket, some .int, false, 1, 1924) := by rfl
theorem mo_Mod_basket : mj_okM 19664194 := mj_okM_of me_Mod_basket mf_Mod_basket
theorem mb_Mod_basket : mj_okB (19664194, bl_Mod_basket) := mj_okB_of me_Mod_basket ck_Mod_basket
theorem me_Mod_run : mj_m 19795266 = some (yX12_run, cX12_run, some .int, false, 1, 1993) := by rfl
theorem mo_Mod_run : mj_okM 19795266 := mj_okM_of me_Mod_run mf_Mod_run
theorem mb_Mod_run : mj_okB (19795266, bl_Mod_run) := mj_okB_of me_Mod_run ck_Mod_run
theorem me_Mod_over : mj_m 19992899 = some (yX12_over, cX12_over, some .boolean, false, 1, 1997) := by rfl
theorem mo_Mod_over : mj_okM 19992899 := mj_okM_of me_Mod_over mf_Mod_over
theorem mb_Mod_over : mj_okB (19992899, bl_Mod_over) := mj_okB_of me_Mod_over ck_Mod_over
theorem me_Mod_sound : mj_m 20121921 = some (yX12_sound, cX12_sound, some .boolean, false, 1, 2001) := by rfl
theorem mo_Mod_sound : mj_okM 20121921 := mj_okM_of me_Mod_sound mf_Mod_sound
theorem mb_Mod_sound : mj_okB (20121921, bl_Mod_sound) := mj_okB_of me_Mod_sound ck_Mod_sound
theorem me_Mod_store : mj_m 20187457 = some (yX12_store, cX12_store, some .int, false, 1, 2005) := by rfl
theorem mo_Mod_store : mj_okM 20187457 := mj_okM_of me_Mod_store mf_Mod_store
theorem mb_Mod_store : mj_okB (20187457, bl_Mod_store) := mj_okB_of me_Mod_store ck_Mod_store
theorem me_Mod_hand : mj_m 20319554 = some (yX12_hand, cX12_hand, some .int, false, 1, 2013) := by rfl
theorem mo_Mod_hand : mj_okM 20319554 := mj_okM_of me_Mod_hand mf_Mod_hand
theorem mb_Mod_hand : mj_okB (20319554, bl_Mod_hand) := mj_okB_of me_Mod_hand ck_Mod_hand
theorem me_Mod_order : mj_m 20450626 = some (yX12_order, cX12_order, some .int, false, 1, 2029) := by rfl
theorem mo_Mod_order : mj_okM 20450626 := mj_okM_of me_Mod_order mf_Mod_order
theorem mb_Mod_order : mj_okB (20450626, bl_Mod_order) := mj_okB_of me_Mod_order ck_Mod_order
theorem me_Mod_remembers : mj_m 20580672 = some (yX12_remembers, cX12_remembers, none, false, 1, 2049) := by rfl
theorem mo_Mod_remembers : mj_okM 20580672 := mj_okM_of me_Mod_remembers mf_Mod_remembers
theorem mb_Mod_remembers : mj_okB (20580672, bl_Mod_remembers) := mj_okB_of me_Mod_remembers ck_Mod_remembers
theorem me_Mod_sets : mj_m 20713794 = some (yX12_sets, cX12_sets, some .int, false, 1, 2094) := by rfl
theorem mo_Mod_sets : mj_okM 20713794 := mj_okM_of me_Mod_sets mf_Mod_sets
theorem mb_Mod_sets : mj_okB (20713794, bl_Mod_sets) := mj_okB_of me_Mod_sets ck_Mod_sets
theorem me_Mod_years : mj_m 20842817 = some (yX12_years, cX12_years, some .int, false, 1, 2045) := by rfl
theorem mo_Mod_years : mj_okM 20842817 := mj_okM_of me_Mod_years mf_Mod_years
theorem mb_Mod_years : mj_okB (20842817, bl_Mod_years) := mj_okB_of me_Mod_years ck_Mod_years
theorem me_Mod_cut : mj_m 20976961 = some (yX12_cut, cX12_cut, some .int, false, 1, 2090) := by rfl
theorem mo_Mod_cut : mj_okM 20976961 := mj_okM_of me_Mod_cut mf_Mod_cut
theorem mb_Mod_cut : mj_okB (20976961, bl_Mod_cut) := mj_okB_of me_Mod_cut ck_Mod_cut
theorem me_Mod_buy : mj_m 21107010 = some (yX12_buy, cX12_buy, some .int, false, 1, 2098) := by rfl
theorem mo_Mod_buy : mj_okM 21107010 := mj_okM_of me_Mod_buy mf_Mod_buy
theorem mb_Mod_buy : mj_okB (21107010, bl_Mod_buy) := mj_okB_of me_Mod_buy ck_Mod_buy
theorem me_Mod_sell : mj_m 21238082 = some (yX12_sell, cX12_sell, some .int, false, 1, 2102) := by rfl
theorem mo_Mod_sell : mj_okM 21238082 := mj_okM_of me_Mod_sell mf_Mod_sell
theorem mb_Mod_sell : mj_okB (21238082, bl_Mod_sell) := mj_okB_of me_Mod_sell ck_Mod_sell
theorem me_Mod_take : mj_m 21368130 = some (yX12_take, cX12_take, some .int, false, 1, 2106) := by rfl
theorem mo_Mod_take : mj_okM 21368130 := mj_okM_of me_Mod_take mf_Mod_take
theorem mb_Mod_take : mj_okB (21368130, bl_Mod_take) := mj_okB_of me_Mod_take ck_Mod_take
theorem me_Mod_drop : mj_m 21499201 = some (yX12_drop, cX12_drop, none, false, 1, 2110) := by rfl
theorem mo_Mod_drop : mj_okM 21499201 := mj_okM_of me_Mod_drop mf_Mod_drop
theorem mb_Mod_drop : mj_okB (21499201, bl_Mod_drop) := mj_okB_of me_Mod_drop ck_Mod_drop
theorem me_Mod_drain : mj_m 21630274 = some (yX12_drain, cX12_drain, some .int, false, 1, 2114) := by rfl
theorem mo_Mod_drain : mj_okM 21630274 := mj_okM_of me_Mod_drain mf_Mod_drain
theorem mb_Mod_drain : mj_okB (21630274, bl_Mod_drain) := mj_okB_of me_Mod_drain ck_Mod_drain
theorem me_Mod_hire : mj_m 21761346 = some (yX12_hire, cX12_hire, some .int, false, 1, 2118) := by rfl
theorem mo_Mod_hire : mj_okM 21761346 := mj_okM_of me_Mod_hire mf_Mod_hire
theorem mb_Mod_hire : mj_okB (21761346, bl_Mod_hire) := mj_okB_of me_Mod_hire ck_Mod_hire
theorem me_Mod_teach : mj_m 21892417 = some (yX12_teach, cX12_teach, some .int, false, 1, 2122) := by rfl
theorem mo_Mod_teach : mj_okM 21892417 := mj_okM_of me_Mod_teach mf_Mod_teach
theorem mb_Mod_teach : mj_okB (21892417, bl_Mod_teach) := mj_okB_of me_Mod_teach ck_Mod_teach
theorem me_Mod_make : mj_m 22022465 = some (yX12_make, cX12_make, some .int, false, 1, 2126) := by rfl
theorem mo_Mod_make : mj_okM 22022465 := mj_okM_of me_Mod_make mf_Mod_make
theorem mb_Mod_make : mj_okB (22022465, bl_Mod_make) := mj_okB_of me_Mod_make ck_Mod_make
theorem me_Mod_gainBy : mj_m 22158659 = some (yX12_gainBy, cX12_gainBy, some .int, false, 1, 2138) := by rfl
theorem mo_Mod_gainBy : mj_okM 22158659 := mj_okM_of me_Mod_gainBy mf_Mod_gainBy
theorem mb_Mod_gainBy : mj_okB (22158659, bl_Mod_gainBy) := mj_okB_of me_Mod_gainBy ck_Mod_gainBy
theorem me_Mod_cutsOf : mj_m 22288706 = some (yX12_cutsOf, cX12_cutsOf, some .int, false, 1, 2134) := by rfl
theorem mo_Mod_cutsOf : mj_okM 22288706 := mj_okM_of me_Mod_cutsOf mf_Mod_cutsOf
theorem mb_Mod_cutsOf : mj_okB (22288706, bl_Mod_cutsOf) := mj_okB_of me_Mod_cutsOf ck_Mod_cutsOf
theorem me_Mod_gain : mj_m 22416706 = some (yX12_gain, cX12_gain, some .int, false, 1, 2130) := by rfl
theorem mo_Mod_gain : mj_okM 22416706 := mj_okM_of me_Mod_gain mf_Mod_gain
theorem mb_Mod_gain : mj_okB (22416706, bl_Mod_gain) := mj_okB_of me_Mod_gain ck_Mod_gain
theorem me_Mod_cuts : mj_m 22547778 = some (yX12_cuts, cX12_cuts, some .int, false, 1, 2148) := by rfl
theorem mo_Mod_cuts : mj_okM 22547778 := mj_okM_of me_Mod_cuts mf_Mod_cuts
theorem mb_Mod_cuts : mj_okB (22547778, bl_Mod_cuts) := mj_okB_of me_Mod_cuts ck_Mod_cuts
theorem me_Mod_filled : mj_m 22680897 = some (yX12_filled, cX12_filled, some .int, false, 1, 2160) := by rfl
theorem mo_Mod_filled : mj_okM 22680897 := mj_okM_of me_Mod_filled mf_Mod_filled
theorem mb_Mod_filled : mj_okB (22680897, bl_Mod_filled) := mj_okB_of me_Mod_filled ck_Mod_filled
theorem me_Mod_mostFilled : mj_m 22810944 = some (yX12_mostFilled, cX12_mostFilled, some .int, false, 1, 2156) := by rfl
theorem mo_Mod_mostFilled : mj_okM 22810944 := mj_okM_of me_Mod_mostFilled mf_Mod_mostFilled
theorem mb_Mod_mostFilled : mj_okB (22810944, bl_Mod_mostFilled) := mj_okB_of me_Mod_mostFilled ck_Mod_mostFilled
theorem me_Mod_worth : mj_m 22938944 = some (yX12_worth, cX12_worth, some .int, false, 1, 2152) := by rfl
theorem mo_Mod_worth : mj_okM 22938944 := mj_okM_of me_Mod_worth mf_Mod_worth
theorem mb_Mod_worth : mj_okB (22938944, bl_Mod_worth) := mj_okB_of me_Mod_worth ck_Mod_worth
theorem me_Mod_fills : mj_m 23070016 = some (yX12_fills, cX12_fills, some .int, false, 1, 2168) := by rfl
theorem mo_Mod_fills : mj_okM 23070016 := mj_okM_of me_Mod_fills mf_Mod_fills
theorem mb_Mod_fills : mj_okB (23070016, bl_Mod_fills) := mj_okB_of me_Mod_fills ck_Mod_fills
theorem me_Mod_packs : mj_m 23273797 = some (yX12_packs, cX12_packs, some .boolean, false, 1, 2184) := by rfl
theorem mo_Mod_packs : mj_okM 23273797 := mj_okM_of me_Mod_packs mf_Mod_packs
theorem mb_Mod_packs : mj_okB (23273797, bl_Mod_packs) := mj_okB_of me_Mod_packs ck_Mod_packs
theorem me_Mod_rodsFor : mj_m 23335234 = some (yX12_rodsFor, cX12_rodsFor, some .int, false, 1, 2180) := by rfl
theorem mo_Mod_rodsFor : mj_okM 23335234 := mj_okM_of me_Mod_rodsFor mf_Mod_rodsFor
theorem mb_Mod_rodsFor : mj_okB (23335234, bl_Mod_rodsFor) := mj_okB_of me_Mod_rodsFor ck_Mod_rodsFor
theorem me_Mod_pieceMany : mj_m 23467329 = some (yX12_pieceMany, cX12_pieceMany, some .int, false, 1, 2176) := by rfl
theorem mo_Mod_pieceMany : mj_okM 23467329 := mj_okM_of me_Mod_pieceMany mf_Mod_pieceMany
theorem mb_Mod_pieceMany : mj_okB (23467329, bl_Mod_pieceMany) := mj_okB_of me_Mod_pieceMany ck_Mod_pieceMany
theorem me_Mod_pieces : mj_m 23596353 = some (yX12_pieces, cX12_pieces, some .int, false, 1, 2172) := by rfl
theorem mo_Mod_pieces : mj_okM 23596353 := mj_okM_of me_Mod_pieces mf_Mod_pieces
theorem mb_Mod_pieces : mj_okB (23596353, bl_Mod_pieces) := mj_okB_of me_Mod_pieces ck_Mod_pieces
theorem me_Mod_rod : mj_m 23728450 = some (yX12_rod, cX12_rod, some .int, false, 1, 2188) := by rfl
theorem mo_Mod_rod : mj_okM 23728450 := mj_okM_of me_Mod_rod mf_Mod_rod
theorem mb_Mod_rod : mj_okB (23728450, bl_Mod_rod) := mj_okB_of me_Mod_rod ck_Mod_rod
theorem me_Mod_isWeave : mj_m 23924033 = some (yX12_isWeave, cX12_isWeave, some .boolean, false, 0, 2199) := by rfl
theorem mo_Mod_isWeave : mj_okM 23924033 := mj_okM_of me_Mod_isWeave mf_Mod_isWeave
theorem mb_Mod_isWeave : mj_okB (23924033, bl_Mod_isWeave) := mj_okB_of me_Mod_isWeave ck_Mod_isWeave
theorem me_Mod_isPassed : mj_m 24054082 = some (yX12_isPassed, cX12_isPassed, some .boolean, false, 0, 2202) := by rfl
theorem mo_Mod_isPassed : mj_okM 24054082 := mj_okM_of me_Mod_isPassed mf_Mod_isPassed
theorem mb_Mod_isPassed : mj_okB (24054082, bl_Mod_isPassed) := mj_okB_of me_Mod_isPassed ck_Mod_isPassed
theorem me_Mod_sees : mj_m 24188224 = some (yX12_sees, cX12_sees, some .boolean, false, 1, 2196) := by rfl
theorem mo_Mod_sees : mj_okM 24188224 := mj_okM_of me_Mod_sees mf_Mod_sees
theorem mb_Mod_sees : mj_okB (24188224, bl_Mod_sees) := mj_okB_of me_Mod_sees ck_Mod_sees
theorem me_Mod_seenMany : mj_m 24251712 = some (yX12_seenMany, cX12_seenMany, some .int, false, 1, 2206) := by rfl
theorem mo_Mod_seenMany : mj_okM 24251712 := mj_okM_of me_Mod_seenMany mf_Mod_seenMany
theorem mb_Mod_seenMany : mj_okB (24251712, bl_Mod_seenMany) := mj_okB_of me_Mod_seenMany ck_Mod_seenMany
theorem me_Mod_found : mj_m 24382785 = some (yX12_found, cX12_found, some .int, false, 1, 2192) := by rfl
theorem mo_Mod_found : mj_okM 24382785 := mj_okM_of me_Mod_found mf_Mod_found
theorem mb_Mod_found : mj_okB (24382785, bl_Mod_found) := mj_okB_of me_Mod_found ck_Mod_found
theorem me_Mod_look : mj_m 24517952 = some (yX12_look, cX12_look, some .int, false, 1, 2210) := by rfl
theorem mo_Mod_look : mj_okM 24517952 := mj_okM_of me_Mod_look mf_Mod_look
theorem mb_Mod_look : mj_okB (24517952, bl_Mod_look) := mj_okB_of me_Mod_look ck_Mod_look
theorem me_Mod_worksBy : mj_m 24644930 = some (yX12_worksBy, cX12_worksBy, some .int, false, 1, 2222) := by rfl
theorem mo_Mod_worksBy : mj_okM 24644930 := mj_okM_of me_Mod_worksBy mf_Mod_worksBy
theorem mb_Mod_worksBy : mj_okB (24644930, bl_Mod_worksBy) := mj_okB_of me_Mod_worksBy ck_Mod_worksBy
theorem me_Mod_allTeams : mj_m 24778048 = some (yX12_allTeams, cX12_allTeams, none, false, 1, 2218) := by rfl
theorem mo_Mod_allTeams : mj_okM 24778048 := mj_okM_of me_Mod_allTeams mf_Mod_allTeams
theorem mb_Mod_allTeams : mj_okB (24778048, bl_Mod_allTeams) := mj_okB_of me_Mod_allTeams ck_Mod_allTeams
theorem me_Mod_team : mj_m 24911169 = some (yX12_team, cX12_team, some .int, false, 1, 2214) := by rfl
theorem mo_Mod_team : mj_okM 24911169 := mj_okM_of me_Mod_team mf_Mod_team
theorem mb_Mod_team : mj_okB (24911169, bl_Mod_team) := mj_okB_of me_Mod_team ck_Mod_team
theorem me_Mod_lowest : mj_m 25037121 = some (yX12_lowest, cX12_lowest, some .int, false, 0, 2233) := by rfl
theorem mo_Mod_lowest : mj_okM 25037121 := mj_okM_of me_Mod_lowest mf_Mod_lowest
theorem mb_Mod_lowest : mj_okB (25037121, bl_Mod_lowest) := mj_okB_of me_Mod_lowest ck_Mod_lowest
theorem me_Mod_both : mj_m 25169218 = some (yX12_both, cX12_both, some .int, false, 1, 2237) := by rfl
theorem mo_Mod_both : mj_okM 25169218 := mj_okM_of me_Mod_both mf_Mod_both
theorem mb_Mod_both : mj_okB (25169218, bl_Mod_both) := mj_okB_of me_Mod_both ck_Mod_both
theorem me_Mod_allBest : mj_m 25302336 = some (yX12_allBest, cX12_allBest, none, false, 1, 2230) := by rfl
theorem mo_Mod_allBest : mj_okM 25302336 := mj_okM_of me_Mod_allBest mf_Mod_allBest
theorem mb_Mod_allBest : mj_okB (25302336, bl_Mod_allBest) := mj_okB_of me_Mod_allBest ck_Mod_allBest
theorem me_Mod_pairs : mj_m 25435457 = some (yX12_pairs, cX12_pairs, some .int, false, 1, 2226) := by rfl
theorem mo_Mod_pairs : mj_okM 25435457 := mj_okM_of me_Mod_pairs mf_Mod_pairs
theorem mb_Mod_pairs : mj_okB (25435457, bl_Mod_pairs) := mj_okB_of me_Mod_pairs ck_Mod_pairs
theorem me_Mod_change : mj_m 25562434 = some (yX12_change, cX12_change, some .int, false, 1, 2241) := by rfl
theorem mo_Mod_change : mj_okM 25562434 := mj_okM_of me_Mod_change mf_Mod_change
theorem mb_Mod_change : mj_okB (25562434, bl_Mod_change) := mj_okB_of me_Mod_change ck_Mod_change
theorem me_Mod_share : mj_m 25696578 = some (yX12_share, cX12_share, some .int, false, 1, 2245) := by rfl
theorem mo_Mod_share : mj_okM 25696578 := mj_okM_of me_Mod_share mf_Mod_share
theorem mb_Mod_share : mj_okB (25696578, bl_Mod_share) := mj_okB_of me_Mod_share ck_Mod_share
theorem me_Mod_earned : mj_m 25826626 = some (yX12_earned, cX12_earned, some .int, false, 1, 2253) := by rfl
theorem mo_Mod_earned : mj_okM 25826626 := mj_okM_of me_Mod_earned mf_Mod_earned
theorem mb_Mod_earned : mj_okB (25826626, bl_Mod_earned) := mj_okB_of me_Mod_earned ck_Mod_earned
theorem me_Mod_price : mj_m 25956673 = some (yX12_price, cX12_price, some .int, false, 1, 2249) := by rfl
theorem mo_Mod_price : mj_okM 25956673 := mj_okM_of me_Mod_price mf_Mod_price
theorem mb_Mod_price : mj_okB (25956673, bl_Mod_price) := mj_okB_of me_Mod_price ck_Mod_price
theorem me_Mod_heHas : mj_m 26087747 = some (yX12_heHas, cX12_heHas, some .int, false, 1, 2261) := by rfl
theorem mo_Mod_heHas : mj_okM 26087747 := mj_okM_of me_Mod_heHas mf_Mod_heHas
theorem mb_Mod_heHas : mj_okB (26087747, bl_Mod_heHas) := mj_okB_of me_Mod_heHas ck_Mod_heHas
theorem me_Mod_riverHas : mj_m 26216770 = some (yX12_riverHas, cX12_riverHas, some .int, false, 0, 2264) := by rfl
theorem mo_Mod_riverHas : mj_okM 26216770 := mj_okM_of me_Mod_riverHas mf_Mod_riverHas
theorem mb_Mod_riverHas : mj_okB (26216770, bl_Mod_riverHas) := mj_okB_of me_Mod_riverHas ck_Mod_riverHas
theorem me_Mod_rests : mj_m 26351937 = some (yX12_rests, cX12_rests, some .int, false, 1, 2257) := by rfl
theorem mo_Mod_rests : mj_okM 26351937 := mj_okM_of me_Mod_rests mf_Mod_rests
theorem mb_Mod_rests : mj_okB (26351937, bl_Mod_rests) := mj_okB_of me_Mod_rests ck_Mod_rests
theorem me_Mod_odds : mj_m 26488130 = some (yX12_odds, cX12_odds, some .int, false, 1, 2268) := by rfl
theorem mo_Mod_odds : mj_okM 26488130 := mj_okM_of me_Mod_odds mf_Mod_odds
theorem mb_Mod_odds : mj_okB (26488130, bl_Mod_odds) := mj_okB_of me_Mod_odds ck_Mod_odds
theorem me_Mod_valueOf : mj_m 26611010 = some (yX12_valueOf, cX12_valueOf, some .int, false, 1, 2278) := by rfl
theorem mo_Mod_valueOf : mj_okM 26611010 := mj_okM_of me_Mod_valueOf mf_Mod_valueOf
theorem mb_Mod_valueOf : mj_okB (26611010, bl_Mod_valueOf) := mj_okB_of me_Mod_valueOf ck_Mod_valueOf
theorem me_Mod_most : mj_m 26744129 = some (yX12_most, cX12_most, some .int, false, 1, 2274) := by rfl
theorem mo_Mod_most : mj_okM 26744129 := mj_okM_of me_Mod_most mf_Mod_most
theorem mb_Mod_most : mj_okB (26744129, bl_Mod_most) := mj_okB_of me_Mod_most ck_Mod_most
theorem me_Mod_open : mj_m 26874177 = some (yX12_open, cX12_open, some .int, false, 1, 2282) := by rfl
theorem mo_Mod_open : mj_okM 26874177 := mj_okM_of me_Mod_open mf_Mod_open
theorem mb_Mod_open : mj_okB (26874177, bl_Mod_open) := mj_okB_of me_Mod_open ck_Mod_open
theorem me_Mod_twins : mj_m 27005248 = some (yX12_twins, cX12_twins, some .int, false, 1, 2286) := by rfl
theorem mo_Mod_twins : mj_okM 27005248 := mj_okM_of me_Mod_twins mf_Mod_twins
theorem mb_Mod_twins : mj_okB (27005248, bl_Mod_twins) := mj_okB_of me_Mod_twins ck_Mod_twins
theorem me_Mod_sort : mj_m 27136321 = some (yX12_sort, cX12_sort, some .int, false, 1, 2290) := by rfl
theorem mo_Mod_sort : mj_okM 27136321 := mj_okM_of me_Mod_sort mf_Mod_sort
theorem mb_Mod_sort : mj_okB (27136321, bl_Mod_sort) := mj_okB_of me_Mod_sort ck_Mod_sort
theorem me_Mod_lengths : mj_m 27266368 = some (yX12_lengths, cX12_lengths, some .int, false, 1, 2294) := by rfl
theorem mo_Mod_lengths : mj_okM 27266368 := mj_okM_of me_Mod_lengths mf_Mod_lengths
theorem mb_Mod_lengths : mj_okB (27266368, bl_Mod_lengths) := mj_okB_of me_Mod_lengths ck_Mod_lengths
theorem me_Mod_ahead : mj_m 27400515 = some (yX12_ahead, cX12_ahead, some .int, false, 1, 2298) := by rfl
theorem mo_Mod_ahead : mj_okM 27400515 := mj_okM_of me_Mod_ahead mf_Mod_ahead
theorem mb_Mod_ahead : mj_okB (27400515, bl_Mod_ahead) := mj_okB_of me_Mod_ahead ck_Mod_ahead
theorem me_Mod_trial : mj_m 27530562 = some (yX12_trial, cX12_trial, some .int, false, 1, 2302) := by rfl
theorem mo_Mod_trial : mj_okM 27530562 := mj_okM_of me_Mod_trial mf_Mod_trial
theorem mb_Mod_trial : mj_okB (27530562, bl_Mod_trial) := mj_okB_of me_Mod_trial ck_Mod_trial
theorem me_Mod_span : mj_m 27663682 = some (yX12_span, cX12_span, some .int, false, 1, 2306) := by rfl
theorem mo_Mod_span : mj_okM 27663682 := mj_okM_of me_Mod_span mf_Mod_span
theorem mb_Mod_span : mj_okB (27663682, bl_Mod_span) := mj_okB_of me_Mod_span ck_Mod_span
theorem me_Mod_logged : mj_m 27790658 = some (yX12_logged, cX12_logged, some .int, false, 1, 2314) := by rfl
theorem mo_Mod_logged : mj_okM 27790658 := mj_okM_of me_Mod_logged mf_Mod_logged
theorem mb_Mod_logged : mj_okB (27790658, bl_Mod_logged) := mj_okB_of me_Mod_logged ck_Mod_logged
theorem me_Mod_led : mj_m 27924802 = some (yX12_led, cX12_led, some .int, false, 1, 2310) := by rfl
theorem mo_Mod_led : mj_okM 27924802 := mj_okM_of me_Mod_led mf_Mod_led
theorem mb_Mod_led : mj_okB (27924802, bl_Mod_led) := mj_okB_of me_Mod_led ck_Mod_led
theorem me_Mod_log : mj_m 28052802 = some (yX12_log, cX12_log, some .int, false, 1, 2318) := by rfl
theorem mo_Mod_log : mj_okM 28052802 := mj_okM_of me_Mod_log mf_Mod_log
theorem mb_Mod_log : mj_okB (28052802, bl_Mod_log) := mj_okB_of me_Mod_log ck_Mod_log
theorem me_Mod_seed : mj_m 28183873 = some (yX12_seed, cX12_seed, some .int, false, 1, 2322) := by rfl
theorem mo_Mod_seed : mj_okM 28183873 := mj_okM_of me_Mod_seed mf_Mod_seed
theorem mb_Mod_seed : mj_okB (28183873, bl_Mod_seed) := mj_okB_of me_Mod_seed ck_Mod_seed
theorem me_Mod_undo : mj_m 28379456 = some (yX12_undo, cX12_undo, some .boolean, false, 1, 2326) := by rfl
theorem mo_Mod_undo : mj_okM 28379456 := mj_okM_of me_Mod_undo mf_Mod_undo
theorem mb_Mod_undo : mj_okB (28379456, bl_Mod_undo) := mj_okB_of me_Mod_undo ck_Mod_undo
theorem me_Mod_image : mj_m 28444992 = some (yX12_image, cX12_image, none, false, 1, 2330) := by rfl
theorem mo_Mod_image : mj_okM 28444992 := mj_okM_of me_Mod_image mf_Mod_image
theorem mb_Mod_image : mj_okB (28444992, bl_Mod_image) := mj_okB_of me_Mod_image ck_Mod_image
theorem me_Mod_back : mj_m 28641600 = some (yX12_back, cX12_back, some .boolean, false, 1, 2334) := by rfl
theorem mo_Mod_back : mj_okM 28641600 := mj_okM_of me_Mod_back mf_Mod_back
theorem mb_Mod_back : mj_okB (28641600, bl_Mod_back) := mj_okB_of me_Mod_back ck_Mod_back
theorem me_Mod_count : mj_m 28707137 = some (yX12_count, cX12_count, some .int, false, 1, 2338) := by rfl
theorem mo_Mod_count : mj_okM 28707137 := mj_okM_of me_Mod_count mf_Mod_count
theorem mb_Mod_count : mj_okB (28707137, bl_Mod_count) := mj_okB_of me_Mod_count ck_Mod_count
theorem me_Baskets_init : mj_m 28836864 = some (yX0_init, cX0_init, none, false, 2, 262) := by rfl
theorem mo_Baskets_init : mj_okM 28836864 := mj_okM_of me_Baskets_init mf_Baskets_init
theorem mb_Baskets_init : mj_okB (28836864, bl_Baskets_init) := mj_okB_of me_Baskets_init ck_Baskets_init
theorem me_Baskets_copy : mj_m 28968961 = some (yX0_copy, cX0_copy, none, false, 1, 620) := by rfl
theorem mo_Baskets_copy : mj_okM 28968961 := mj_okM_of me_Baskets_copy mf_Baskets_copy
theorem mb_Baskets_copy : mj_okB (28968961, bl_Baskets_copy) := mj_okB_of me_Baskets_copy ck_Baskets_copy
theorem me_Baskets_beginWeave : mj_m 29100033 = some (yX0_beginWeave, cX0_beginWeave, none, false, 1, 794) := by rfl
theorem mo_Baskets_beginWeave : mj_okM 29100033 := mj_okM_of me_Baskets_beginWeave mf_Baskets_beginWeave
theorem mb_Baskets_beginWeave : mj_okB (29100033, bl_Baskets_beginWeave) := mj_okB_of me_Baskets_beginWeave ck_Baskets_beginWeave
theorem me_Baskets_addRun : mj_m 29233154 = some (yX0_addRun, cX0_addRun, none, false, 1, 802) := by rfl
theorem mo_Baskets_addRun : mj_okM 29233154 := mj_okM_of me_Baskets_addRun mf_Baskets_addRun
theorem mb_Baskets_addRun : mj_okB (29233154, bl_Baskets_addRun) := mj_okB_of me_Baskets_addRun ck_Baskets_addRun
theorem me_Baskets_runOf : mj_m 29363202 = some (yX0_runOf, cX0_runOf, some .int, false, 1, 1138) := by rfl
theorem mo_Baskets_runOf : mj_okM 29363202 := mj_okM_of me_Baskets_runOf mf_Baskets_runOf
theorem mb_Baskets_runOf : mj_okB (29363202, bl_Baskets_runOf) := mj_okB_of me_Baskets_runOf ck_Baskets_runOf
theorem me_Baskets_passesOver : mj_m 29560834 = some (yX0_passesOver, cX0_passesOver, some .boolean, false, 1, 1096) := by rfl
theorem mo_Baskets_passesOver : mj_okM 29560834 := mj_okM_of me_Baskets_passesOver mf_Baskets_passesOver
theorem mb_Baskets_passesOver : mj_okB (29560834, bl_Baskets_passesOver) := mj_okB_of me_Baskets_passesOver ck_Baskets_passesOver
theorem me_Baskets_needOf : mj_m 29626369 = some (yX0_needOf, cX0_needOf, some .int, false, 1, 564) := by rfl
theorem mo_Baskets_needOf : mj_okM 29626369 := mj_okM_of me_Baskets_needOf mf_Baskets_needOf
theorem mb_Baskets_needOf : mj_okB (29626369, bl_Baskets_needOf) := mj_okB_of me_Baskets_needOf ck_Baskets_needOf
theorem me_Baskets_againOf : mj_m 29757441 = some (yX0_againOf, cX0_againOf, some .int, false, 1, 1088) := by rfl
theorem mo_Baskets_againOf : mj_okM 29757441 := mj_okM_of me_Baskets_againOf mf_Baskets_againOf
theorem mb_Baskets_againOf : mj_okB (29757441, bl_Baskets_againOf) := mj_okB_of me_Baskets_againOf ck_Baskets_againOf
theorem me_Baskets_isAlikeAfter : mj_m 29954050 = some (yX0_isAlikeAfter, cX0_isAlikeAfter, some .boolean, false, 1, 1092) := by rfl
theorem mo_Baskets_isAlikeAfter : mj_okM 29954050 := mj_okM_of me_Baskets_isAlikeAfter mf_Baskets_isAlikeAfter
theorem mb_Baskets_isAlikeAfter : mj_okB (29954050, bl_Baskets_isAlikeAfter) := mj_okB_of me_Baskets_isAlikeAfter ck_Baskets_isAlikeAfter
theorem me_Baskets_looseOf : mj_m 30020610 = some (yX0_looseOf, cX0_looseOf, some .int, false, 1, 1100) := by rfl
theorem mo_Baskets_looseOf : mj_okM 30020610 := mj_okM_of me_Baskets_looseOf mf_Baskets_looseOf
theorem mb_Baskets_looseOf : mj_okB (30020610, bl_Baskets_looseOf) := mj_okB_of me_Baskets_looseOf ck_Baskets_looseOf
theorem me_Baskets_floatOf : mj_m 30148609 = some (yX0_floatOf, cX0_floatOf, some .int, false, 1, 1109) := by rfl
theorem mo_Baskets_floatOf : mj_okM 30148609 := mj_okM_of me_Baskets_floatOf mf_Baskets_floatOf
theorem mb_Baskets_floatOf : mj_okB (30148609, bl_Baskets_floatOf) := mj_okB_of me_Baskets_floatOf ck_Baskets_floatOf
theorem me_Baskets_dropOf : mj_m 30281729 = some (yX0_dropOf, cX0_dropOf, some .int, false, 1, 1113) := by rfl
theorem mo_Baskets_dropOf : mj_okM 30281729 := mj_okM_of me_Baskets_dropOf mf_Baskets_dropOf
theorem mb_Baskets_dropOf : mj_okB (30281729, bl_Baskets_dropOf) := mj_okB_of me_Baskets_dropOf ck_Baskets_dropOf
theorem me_Baskets_longestAlike : mj_m 30418948 = some (yX0_longestAlike, cX0_longestAlike, some .int, false, 1, 1104) := by rfl
theorem mo_Baskets_longestAlike : mj_okM 30418948 := mj_okM_of me_Baskets_longestAlike mf_Baskets_longestAlike
theorem mb_Baskets_longestAlike : mj_okB (30418948, bl_Baskets_longestAlike) := mj_okB_of me_Baskets_longestAlike ck_Baskets_longestAlike
theorem me_Baskets_blindOf : mj_m 30543873 = some (yX0_blindOf, cX0_blindOf, some .int, false, 1, 1117) := by rfl
theorem mo_Baskets_blindOf : mj_okM 30543873 := mj_okM_of me_Baskets_blindOf mf_Baskets_blindOf
theorem mb_Baskets_blindOf : mj_okB (30543873, bl_Baskets_blindOf) := mj_okB_of me_Baskets_blindOf ck_Baskets_blindOf
theorem me_Baskets_isBlind : mj_m 30741506 = some (yX0_isBlind, cX0_isBlind, some .boolean, false, 1, 1121) := by rfl
theorem mo_Baskets_isBlind : mj_okM 30741506 := mj_okM_of me_Baskets_isBlind mf_Baskets_isBlind
theorem mb_Baskets_isBlind : mj_okB (30741506, bl_Baskets_isBlind) := mj_okB_of me_Baskets_isBlind ck_Baskets_isBlind
theorem me_Baskets_fitOf : mj_m 30804993 = some (yX0_fitOf, cX0_fitOf, some .int, false, 1, 1125) := by rfl
theorem mo_Baskets_fitOf : mj_okM 30804993 := mj_okM_of me_Baskets_fitOf mf_Baskets_fitOf
theorem mb_Baskets_fitOf : mj_okB (30804993, bl_Baskets_fitOf) := mj_okB_of me_Baskets_fitOf ck_Baskets_fitOf
theorem me_Baskets_bestPrice : mj_m 30939137 = some (yX0_bestPrice, cX0_bestPrice, some .int, false, 1, 1513) := by rfl
theorem mo_Baskets_bestPrice : mj_okM 30939137 := mj_okM_of me_Baskets_bestPrice mf_Baskets_bestPrice
theorem mb_Baskets_bestPrice : mj_okB (30939137, bl_Baskets_bestPrice) := mj_okB_of me_Baskets_bestPrice ck_Baskets_bestPrice
theorem me_Baskets_buyersAt : mj_m 31069186 = some (yX0_buyersAt, cX0_buyersAt, some .int, false, 1, 1517) := by rfl
theorem mo_Baskets_buyersAt : mj_okM 31069186 := mj_okM_of me_Baskets_buyersAt mf_Baskets_buyersAt
theorem mb_Baskets_buyersAt : mj_okB (31069186, bl_Baskets_buyersAt) := mj_okB_of me_Baskets_buyersAt ck_Baskets_buyersAt
theorem me_Beds_init : mj_m 31196192 = some (yX1_init, cX1_init, none, false, 2, 227) := by rfl
theorem mo_Beds_init : mj_okM 31196192 := mj_okM_of me_Beds_init mf_Beds_init
theorem mb_Beds_init : mj_okB (31196192, bl_Beds_init) := mj_okB_of me_Beds_init ck_Beds_init
theorem me_Beds_copy : mj_m 31328289 = some (yX1_copy, cX1_copy, none, false, 1, 613) := by rfl
theorem mo_Beds_copy : mj_okM 31328289 := mj_okM_of me_Beds_copy mf_Beds_copy
theorem mb_Beds_copy : mj_okB (31328289, bl_Beds_copy) := mj_okB_of me_Beds_copy ck_Beds_copy
theorem me_Beds_add : mj_m 31462436 = some (yX1_add, cX1_add, none, false, 1, 783) := by rfl
theorem mo_Beds_add : mj_okM 31462436 := mj_okM_of me_Beds_add mf_Beds_add
theorem mb_Beds_add : mj_okB (31462436, bl_Beds_add) := mj_okB_of me_Beds_add ck_Beds_add
theorem me_Beds_grow : mj_m 31591457 = some (yX1_grow, cX1_grow, none, false, 1, 1229) := by rfl
theorem mo_Beds_grow : mj_okM 31591457 := mj_okM_of me_Beds_grow mf_Beds_grow
theorem mb_Beds_grow : mj_okB (31591457, bl_Beds_grow) := mj_okB_of me_Beds_grow ck_Beds_grow
theorem me_Beds_stoolsAhead : mj_m 31724578 = some (yX1_stoolsAhead, cX1_stoolsAhead, some .int, false, 1, 1573) := by rfl
theorem mo_Beds_stoolsAhead : mj_okM 31724578 := mj_okM_of me_Beds_stoolsAhead mf_Beds_stoolsAhead
theorem mb_Beds_stoolsAhead : mj_okB (31724578, bl_Beds_stoolsAhead) := mj_okB_of me_Beds_stoolsAhead ck_Beds_stoolsAhead
theorem me_Beds_partOf : mj_m 31854625 = some (yX1_partOf, cX1_partOf, some .int, false, 1, 1056) := by rfl
theorem mo_Beds_partOf : mj_okM 31854625 := mj_okM_of me_Beds_partOf mf_Beds_partOf
theorem mb_Beds_partOf : mj_okB (31854625, bl_Beds_partOf) := mj_okB_of me_Beds_partOf ck_Beds_partOf
theorem me_Beds_feetCut : mj_m 31988771 = some (yX1_feetCut, cX1_feetCut, some .int, false, 1, 1362) := by rfl
theorem mo_Beds_feetCut : mj_okM 31988771 := mj_okM_of me_Beds_feetCut mf_Beds_feetCut
theorem mb_Beds_feetCut : mj_okB (31988771, bl_Beds_feetCut) := mj_okB_of me_Beds_feetCut ck_Beds_feetCut
theorem me_Beds_bestCuts : mj_m 32118818 = some (yX1_bestCuts, cX1_bestCuts, some .int, false, 1, 1358) := by rfl
theorem mo_Beds_bestCuts : mj_okM 32118818 := mj_okM_of me_Beds_bestCuts mf_Beds_bestCuts
theorem mb_Beds_bestCuts : mj_okB (32118818, bl_Beds_bestCuts) := mj_okB_of me_Beds_bestCuts ck_Beds_bestCuts
theorem me_Beds_twinPairs : mj_m 32247840 = some (yX1_twinPairs, cX1_twinPairs, some .int, false, 1, 593) := by rfl
theorem mo_Beds_twinPairs : mj_okM 32247840 := mj_okM_of me_Beds_twinPairs mf_Beds_twinPairs
theorem mb_Beds_twinPairs : mj_okB (32247840, bl_Beds_twinPairs) := mj_okB_of me_Beds_twinPairs ck_Beds_twinPairs
theorem me_Beds_ofSort : mj_m 32378913 = some (yX1_ofSort, cX1_ofSort, some .int, false, 1, 1562) := by rfl
theorem mo_Beds_ofSort : mj_okM 32378913 := mj_okM_of me_Beds_ofSort mf_Beds_ofSort
theorem mb_Beds_ofSort : mj_okB (32378913, bl_Beds_ofSort) := mj_okB_of me_Beds_ofSort ck_Beds_ofSort
theorem me_Hands_init : mj_m 32506944 = some (yX2_init, cX2_init, none, false, 2, 313) := by rfl
theorem mo_Hands_init : mj_okM 32506944 := mj_okM_of me_Hands_init mf_Hands_init
theorem mb_Hands_init : mj_okB (32506944, bl_Hands_init) := mj_okB_of me_Hands_init ck_Hands_init
theorem me_Hands_copy : mj_m 32639041 = some (yX2_copy, cX2_copy, none, false, 1, 625) := by rfl
theorem mo_Hands_copy : mj_okM 32639041 := mj_okM_of me_Hands_copy mf_Hands_copy
theorem mb_Hands_copy : mj_okB (32639041, bl_Hands_copy) := mj_okB_of me_Hands_copy ck_Hands_copy
theorem me_Hands_add : mj_m 32771138 = some (yX2_add, cX2_add, none, false, 1, 814) := by rfl
theorem mo_Hands_add : mj_okM 32771138 := mj_okM_of me_Hands_add mf_Hands_add
theorem mb_Hands_add : mj_okB (32771138, bl_Hands_add) := mj_okB_of me_Hands_add ck_Hands_add
theorem me_Holt_init : mj_m 32900192 = some (yX3_init, cX3_init, none, false, 2, 221) := by rfl
theorem mo_Holt_init : mj_okM 32900192 := mj_okM_of me_Holt_init mf_Holt_init
theorem mb_Holt_init : mj_okB (32900192, bl_Holt_init) := mj_okB_of me_Holt_init ck_Holt_init
theorem me_Holt_copy : mj_m 33032289 = some (yX3_copy, cX3_copy, none, false, 1, 609) := by rfl
theorem mo_Holt_copy : mj_okM 33032289 := mj_okM_of me_Holt_copy mf_Holt_copy
theorem mb_Holt_copy : mj_okB (33032289, bl_Holt_copy) := mj_okB_of me_Holt_copy ck_Holt_copy
theorem me_Holt_earn : mj_m 33163361 = some (yX3_earn, cX3_earn, none, false, 1, 1247) := by rfl
theorem mo_Holt_earn : mj_okM 33163361 := mj_okM_of me_Holt_earn mf_Holt_earn
theorem mb_Holt_earn : mj_okB (33163361, bl_Holt_earn) := mj_okB_of me_Holt_earn ck_Holt_earn
theorem me_Holt_passYears : mj_m 33296481 = some (yX3_passYears, cX3_passYears, some .int, false, 1, 1216) := by rfl
theorem mo_Holt_passYears : mj_okM 33296481 := mj_okM_of me_Holt_passYears mf_Holt_passYears
theorem mb_Holt_passYears : mj_okB (33296481, bl_Holt_passYears) := mj_okB_of me_Holt_passYears ck_Holt_passYears
theorem me_Holt_passYear : mj_m 33425504 = some (yX3_passYear, cX3_passYear, some .int, false, 1, 1220) := by rfl
theorem mo_Holt_passYear : mj_okM 33425504 := mj_okM_of me_Holt_passYear mf_Holt_passYear
theorem mb_Holt_passYear : mj_okB (33425504, bl_Holt_passYear) := mj_okB_of me_Holt_passYear ck_Holt_passYear
theorem me_Holt_draw : mj_m 33555552 = some (yX3_draw, cX3_draw, some .int, false, 1, 1224) := by rfl
theorem mo_Holt_draw : mj_okM 33555552 := mj_okM_of me_Holt_draw mf_Holt_draw
theorem mb_Holt_draw : mj_okB (33555552, bl_Holt_draw) := mj_okB_of me_Holt_draw ck_Holt_draw
theorem me_Holt_payHands : mj_m 33688672 = some (yX3_payHands, cX3_payHands, some .int, false, 1, 1235) := by rfl
theorem mo_Holt_payHands : mj_okM 33688672 := mj_okM_of me_Holt_payHands mf_Holt_payHands
theorem mb_Holt_payHands : mj_okB (33688672, bl_Holt_payHands) := mj_okB_of me_Holt_payHands ck_Holt_payHands
theorem me_Holt_makeOrders : mj_m 33820769 = some (yX3_makeOrders, cX3_makeOrders, some .int, false, 1, 1239) := by rfl
theorem mo_Holt_makeOrders : mj_okM 33820769 := mj_okM_of me_Holt_makeOrders mf_Holt_makeOrders
theorem mb_Holt_makeOrders : mj_okB (33820769, bl_Holt_makeOrders) := mj_okB_of me_Holt_makeOrders ck_Holt_makeOrders
theorem me_Holt_rodsFor : mj_m 33949793 = some (yX3_rodsFor, cX3_rodsFor, some .int, false, 1, 560) := by rfl
theorem mo_Holt_rodsFor : mj_okM 33949793 := mj_okM_of me_Holt_rodsFor mf_Holt_rodsFor
theorem mb_Holt_rodsFor : mj_okB (33949793, bl_Holt_rodsFor) := mj_okB_of me_Holt_rodsFor ck_Holt_rodsFor
theorem me_Holt_feetFor : mj_m 34080865 = some (yX3_feetFor, cX3_feetFor, some .int, false, 1, 556) := by rfl
theorem mo_Holt_feetFor : mj_okM 34080865 := mj_okM_of me_Holt_feetFor mf_Holt_feetFor
theorem mb_Holt_feetFor : mj_okB (34080865, bl_Holt_feetFor) := mj_okB_of me_Holt_feetFor ck_Holt_feetFor
theorem me_Holt_payFor : mj_m 34211937 = some (yX3_payFor, cX3_payFor, some .int, false, 1, 542) := by rfl
theorem mo_Holt_payFor : mj_okM 34211937 := mj_okM_of me_Holt_payFor mf_Holt_payFor
theorem mb_Holt_payFor : mj_okB (34211937, bl_Holt_payFor) := mj_okB_of me_Holt_payFor ck_Holt_payFor
theorem me_Holt_canMake : mj_m 34408545 = some (yX3_canMake, cX3_canMake, some .boolean, false, 1, 581) := by rfl
theorem mo_Holt_canMake : mj_okM 34408545 := mj_okM_of me_Holt_canMake mf_Holt_canMake
theorem mb_Holt_canMake : mj_okB (34408545, bl_Holt_canMake) := mj_okB_of me_Holt_canMake ck_Holt_canMake
theorem me_Holt_makeUp : mj_m 34476130 = some (yX3_makeUp, cX3_makeUp, none, false, 1, 1243) := by rfl
theorem mo_Holt_makeUp : mj_okM 34476130 := mj_okM_of me_Holt_makeUp mf_Holt_makeUp
theorem mb_Holt_makeUp : mj_okB (34476130, bl_Holt_makeUp) := mj_okB_of me_Holt_makeUp ck_Holt_makeUp
theorem me_Holt_canMakeBits : mj_m 34606176 = some (yX3_canMakeBits, cX3_canMakeBits, some .int, false, 1, 577) := by rfl
theorem mo_Holt_canMakeBits : mj_okM 34606176 := mj_okM_of me_Holt_canMakeBits mf_Holt_canMakeBits
theorem mb_Holt_canMakeBits : mj_okB (34606176, bl_Holt_canMakeBits) := mj_okB_of me_Holt_canMakeBits ck_Holt_canMakeBits
theorem me_Holt_bestFills : mj_m 34739296 = some (yX3_bestFills, cX3_bestFills, some .int, false, 1, 534) := by rfl
theorem mo_Holt_bestFills : mj_okM 34739296 := mj_okM_of me_Holt_bestFills mf_Holt_bestFills
theorem mb_Holt_bestFills : mj_okB (34739296, bl_Holt_bestFills) := mj_okB_of me_Holt_bestFills ck_Holt_bestFills
theorem me_Holt_payOf : mj_m 34869345 = some (yX3_payOf, cX3_payOf, some .int, false, 1, 538) := by rfl
theorem mo_Holt_payOf : mj_okM 34869345 := mj_okM_of me_Holt_payOf mf_Holt_payOf
theorem mb_Holt_payOf : mj_okB (34869345, bl_Holt_payOf) := mj_okB_of me_Holt_payOf ck_Holt_payOf
theorem me_Holt_canFill : mj_m 35066977 = some (yX3_canFill, cX3_canFill, some .boolean, false, 1, 552) := by rfl
theorem mo_Holt_canFill : mj_okM 35066977 := mj_okM_of me_Holt_canFill mf_Holt_canFill
theorem mb_Holt_canFill : mj_okB (35066977, bl_Holt_canFill) := mj_okB_of me_Holt_canFill ck_Holt_canFill
theorem me_HoltText_read : mj_m 35196258 = some (yX4_read, cX4_read, some .boolean, false, 0, 666) := by rfl
theorem mo_HoltText_read : mj_okM 35196258 := mj_okM_of me_HoltText_read mf_HoltText_read
theorem mb_HoltText_read : mj_okB (35196258, bl_HoltText_read) := mj_okB_of me_HoltText_read ck_HoltText_read
theorem me_HoltText_readLine : mj_m 35261794 = some (yX4_readLine, cX4_readLine, none, false, 0, 697) := by rfl
theorem mo_HoltText_readLine : mj_okM 35261794 := mj_okM_of me_HoltText_readLine mf_HoltText_readLine
theorem mb_HoltText_readLine : mj_okB (35261794, bl_HoltText_readLine) := mj_okB_of me_HoltText_readLine ck_HoltText_readLine
theorem me_HoltText_readBed : mj_m 35395938 = some (yX4_readBed, cX4_readBed, none, false, 0, 753) := by rfl
theorem mo_HoltText_readBed : mj_okM 35395938 := mj_okM_of me_HoltText_readBed mf_HoltText_readBed
theorem mb_HoltText_readBed : mj_okB (35395938, bl_HoltText_readBed) := mj_okB_of me_HoltText_readBed ck_HoltText_readBed
theorem me_HoltText_readSort : mj_m 35521889 = some (yX4_readSort, cX4_readSort, some .int, false, 0, 765) := by rfl
theorem mo_HoltText_readSort : mj_okM 35521889 := mj_okM_of me_HoltText_readSort mf_HoltText_readSort
theorem mb_HoltText_readSort : mj_okB (35521889, bl_HoltText_readSort) := mj_okB_of me_HoltText_readSort ck_HoltText_readSort
theorem me_HoltText_readBasket : mj_m 35656034 = some (yX4_readBasket, cX4_readBasket, none, false, 0, 787) := by rfl
theorem mo_HoltText_readBasket : mj_okM 35656034 := mj_okM_of me_HoltText_readBasket mf_HoltText_readBasket
theorem mb_HoltText_readBasket : mj_okB (35656034, bl_HoltText_readBasket) := mj_okB_of me_HoltText_readBasket ck_HoltText_readBasket
theorem me_HoltText_readHand : mj_m 35787106 = some (yX4_readHand, cX4_readHand, none, false, 0, 808) := by rfl
theorem mo_HoltText_readHand : mj_okM 35787106 := mj_okM_of me_HoltText_readHand mf_HoltText_readHand
theorem mb_HoltText_readHand : mj_okB (35787106, bl_HoltText_readHand) := mj_okB_of me_HoltText_readHand ck_HoltText_readHand
theorem me_HoltText_readOrder : mj_m 35918178 = some (yX4_readOrder, cX4_readOrder, none, false, 0, 818) := by rfl
theorem mo_HoltText_readOrder : mj_okM 35918178 := mj_okM_of me_HoltText_readOrder mf_HoltText_readOrder
theorem mb_HoltText_readOrder : mj_okB (35918178, bl_HoltText_readOrder) := mj_okB_of me_HoltText_readOrder ck_HoltText_readOrder
theorem me_Law_init : mj_m 36045952 = some (yX5_init, cX5_init, none, false, 2, 448) := by rfl
theorem mo_Law_init : mj_okM 36045952 := mj_okM_of me_Law_init mf_Law_init
theorem mb_Law_init : mj_okB (36045952, bl_Law_init) := mj_okB_of me_Law_init ck_Law_init
theorem me_Law_clear : mj_m 36177024 = some (yX5_clear, cX5_clear, none, false, 1, 930) := by rfl
theorem mo_Law_clear : mj_okM 36177024 := mj_okM_of me_Law_clear mf_Law_clear
theorem mb_Law_clear : mj_okB (36177024, bl_Law_clear) := mj_okB_of me_Law_clear ck_Law_clear
theorem me_Law_copy : mj_m 36309121 = some (yX5_copy, cX5_copy, none, false, 1, 645) := by rfl
theorem mo_Law_copy : mj_okM 36309121 := mj_okM_of me_Law_copy mf_Law_copy
theorem mb_Law_copy : mj_okB (36309121, bl_Law_copy) := mj_okB_of me_Law_copy ck_Law_copy
theorem me_Law_emit : mj_m 36440193 = some (yX5_emit, cX5_emit, none, false, 1, 955) := by rfl
theorem mo_Law_emit : mj_okM 36440193 := mj_okM_of me_Law_emit mf_Law_emit
theorem mb_Law_emit : mj_okB (36440193, bl_Law_emit) := mj_okB_of me_Law_emit ck_Law_emit
theorem me_Law_endLine : mj_m 36572290 = some (yX5_endLine, cX5_endLine, none, false, 1, 982) := by rfl
theorem mo_Law_endLine : mj_okM 36572290 := mj_okM_of me_Law_endLine mf_Law_endLine
theorem mb_Law_endLine : mj_okB (36572290, bl_Law_endLine) := mj_okB_of me_Law_endLine ck_Law_endLine
theorem me_Law_reachOf : mj_m 36704386 = some (yX5_reachOf, cX5_reachOf, some .int, false, 1, 1019) := by rfl
theorem mo_Law_reachOf : mj_okM 36704386 := mj_okM_of me_Law_reachOf mf_Law_reachOf
theorem mb_Law_reachOf : mj_okB (36704386, bl_Law_reachOf) := mj_okB_of me_Law_reachOf ck_Law_reachOf
theorem me_Law_yieldOf : mj_m 36834434 = some (yX5_yieldOf, cX5_yieldOf, some .int, false, 1, 1047) := by rfl
theorem mo_Law_yieldOf : mj_okM 36834434 := mj_okM_of me_Law_yieldOf mf_Law_yieldOf
theorem mb_Law_yieldOf : mj_okB (36834434, bl_Law_yieldOf) := mj_okB_of me_Law_yieldOf ck_Law_yieldOf
theorem me_Law_costOf : mj_m 36965506 = some (yX5_costOf, cX5_costOf, some .int, false, 1, 1052) := by rfl
theorem mo_Law_costOf : mj_okM 36965506 := mj_okM_of me_Law_costOf mf_Law_costOf
theorem mb_Law_costOf : mj_okB (36965506, bl_Law_costOf) := mj_okB_of me_Law_costOf ck_Law_costOf
theorem me_Law_sumOf : mj_m 37099651 = some (yX5_sumOf, cX5_sumOf, some .int, false, 1, 1023) := by rfl
theorem mo_Law_sumOf : mj_okM 37099651 := mj_okM_of me_Law_sumOf mf_Law_sumOf
theorem mb_Law_sumOf : mj_okB (37099651, bl_Law_sumOf) := mj_okB_of me_Law_sumOf ck_Law_sumOf
theorem me_Law_holds : mj_m 37298307 = some (yX5_holds, cX5_holds, some .boolean, false, 1, 1027) := by rfl
theorem mo_Law_holds : mj_okM 37298307 := mj_okM_of me_Law_holds mf_Law_holds
theorem mb_Law_holds : mj_okB (37298307, bl_Law_holds) := mj_okB_of me_Law_holds ck_Law_holds
theorem me_Law_reckon : mj_m 37360772 = some (yX5_reckon, cX5_reckon, some .int, false, 1, 1031) := by rfl
theorem mo_Law_reckon : mj_okM 37360772 := mj_okM_of me_Law_reckon mf_Law_reckon
theorem mb_Law_reckon : mj_okB (37360772, bl_Law_reckon) := mj_okB_of me_Law_reckon ck_Law_reckon
theorem me_Law_valueOf : mj_m 37489795 = some (yX5_valueOf, cX5_valueOf, some .int, false, 0, 1034) := by rfl
theorem mo_Law_valueOf : mj_okM 37489795 := mj_okM_of me_Law_valueOf mf_Law_valueOf
theorem mb_Law_valueOf : mj_okB (37489795, bl_Law_valueOf) := mj_okB_of me_Law_valueOf ck_Law_valueOf
theorem me_Law_joined : mj_m 37620867 = some (yX5_joined, cX5_joined, some .int, false, 0, 1037) := by rfl
theorem mo_Law_joined : mj_okM 37620867 := mj_okM_of me_Law_joined mf_Law_joined
theorem mb_Law_joined : mj_okB (37620867, bl_Law_joined) := mj_okB_of me_Law_joined ck_Law_joined
theorem me_LawText_read : mj_m 37819778 = some (yX6_read, cX6_read, some .boolean, false, 0, 925) := by rfl
theorem mo_LawText_read : mj_okM 37819778 := mj_okM_of me_LawText_read mf_LawText_read
theorem mb_LawText_read : mj_okB (37819778, bl_LawText_read) := mj_okB_of me_LawText_read ck_LawText_read
theorem me_LawText_readKind : mj_m 37881217 = some (yX6_readKind, cX6_readKind, some .int, false, 0, 934) := by rfl
theorem mo_LawText_readKind : mj_okM 37881217 := mj_okM_of me_LawText_readKind mf_LawText_readKind
theorem mb_LawText_readKind : mj_okB (37881217, bl_LawText_readKind) := mj_okB_of me_LawText_readKind ck_LawText_readKind
theorem me_LawText_readAny : mj_m 38015363 = some (yX6_readAny, cX6_readAny, none, false, 0, 944) := by rfl
theorem mo_LawText_readAny : mj_okM 38015363 := mj_okM_of me_LawText_readAny mf_LawText_readAny
theorem mb_LawText_readAny : mj_okB (38015363, bl_LawText_readAny) := mj_okB_of me_LawText_readAny ck_LawText_readAny
theorem me_LawText_readAll : mj_m 38146435 = some (yX6_readAll, cX6_readAll, none, false, 0, 947) := by rfl
theorem mo_LawText_readAll : mj_okM 38146435 := mj_okM_of me_LawText_readAll mf_LawText_readAll
theorem mb_LawText_readAll : mj_okB (38146435, bl_LawText_readAll) := mj_okB_of me_LawText_readAll ck_LawText_readAll
theorem me_LawText_readAtom : mj_m 38276483 = some (yX6_readAtom, cX6_readAtom, none, false, 0, 950) := by rfl
theorem mo_LawText_readAtom : mj_okM 38276483 := mj_okM_of me_LawText_readAtom mf_LawText_readAtom
theorem mb_LawText_readAtom : mj_okB (38276483, bl_LawText_readAtom) := mj_okB_of me_LawText_readAtom ck_LawText_readAtom
theorem me_LawText_readComparison : mj_m 38406530 = some (yX6_readComparison, cX6_readComparison, none, false, 0, 963) := by rfl
theorem mo_LawText_readComparison : mj_okM 38406530 := mj_okM_of me_LawText_readComparison mf_LawText_readComparison
theorem mb_LawText_readComparison : mj_okB (38406530, bl_LawText_readComparison) := mj_okB_of me_LawText_readComparison ck_LawText_readComparison
theorem me_LawText_readSum : mj_m 38538626 = some (yX6_readSum, cX6_readSum, none, false, 0, 966) := by rfl
theorem mo_LawText_readSum : mj_okM 38538626 := mj_okM_of me_LawText_readSum mf_LawText_readSum
theorem mb_LawText_readSum : mj_okB (38538626, bl_LawText_readSum) := mj_okB_of me_LawText_readSum ck_LawText_readSum
theorem me_LawText_readPart : mj_m 38667649 = some (yX6_readPart, cX6_readPart, some .int, false, 0, 969) := by rfl
theorem mo_LawText_readPart : mj_okM 38667649 := mj_okM_of me_LawText_readPart mf_LawText_readPart
theorem mb_LawText_readPart : mj_okB (38667649, bl_LawText_readPart) := mj_okB_of me_LawText_readPart ck_LawText_readPart
theorem me_Log_init : mj_m 38798496 = some (yX7_init, cX7_init, none, false, 2, 369) := by rfl
theorem mo_Log_init : mj_okM 38798496 := mj_okM_of me_Log_init mf_Log_init
theorem mb_Log_init : mj_okB (38798496, bl_Log_init) := mj_okB_of me_Log_init ck_Log_init
theorem me_Log_copy : mj_m 38930593 = some (yX7_copy, cX7_copy, none, false, 1, 635) := by rfl
theorem mo_Log_copy : mj_okM 38930593 := mj_okM_of me_Log_copy mf_Log_copy
theorem mb_Log_copy : mj_okB (38930593, bl_Log_copy) := mj_okB_of me_Log_copy ck_Log_copy
theorem me_Log_add : mj_m 39065764 = some (yX7_add, cX7_add, none, false, 1, 1256) := by rfl
theorem mo_Log_add : mj_okM 39065764 := mj_okM_of me_Log_add mf_Log_add
theorem mb_Log_add : mj_okB (39065764, bl_Log_add) := mj_okB_of me_Log_add ck_Log_add
theorem me_Log_cellOf : mj_m 39193762 = some (yX7_cellOf, cX7_cellOf, some .int, false, 1, 1606) := by rfl
theorem mo_Log_cellOf : mj_okM 39193762 := mj_okM_of me_Log_cellOf mf_Log_cellOf
theorem mb_Log_cellOf : mj_okB (39193762, bl_Log_cellOf) := mj_okB_of me_Log_cellOf ck_Log_cellOf
theorem me_Log_isCut : mj_m 39390370 = some (yX7_isCut, cX7_isCut, some .boolean, false, 1, 1602) := by rfl
theorem mo_Log_isCut : mj_okM 39390370 := mj_okM_of me_Log_isCut mf_Log_isCut
theorem mb_Log_isCut : mj_okB (39390370, bl_Log_isCut) := mj_okB_of me_Log_isCut ck_Log_isCut
theorem me_Log_cutsOf : mj_m 39456929 = some (yX7_cutsOf, cX7_cutsOf, some .int, false, 1, 1610) := by rfl
theorem mo_Log_cutsOf : mj_okM 39456929 := mj_okM_of me_Log_cutsOf mf_Log_cutsOf
theorem mb_Log_cutsOf : mj_okB (39456929, bl_Log_cutsOf) := mj_okB_of me_Log_cutsOf ck_Log_cutsOf
theorem me_Log_latestCut : mj_m 39586977 = some (yX7_latestCut, cX7_latestCut, some .int, false, 1, 1598) := by rfl
theorem mo_Log_latestCut : mj_okM 39586977 := mj_okM_of me_Log_latestCut mf_Log_latestCut
theorem mb_Log_latestCut : mj_okB (39586977, bl_Log_latestCut) := mj_okB_of me_Log_latestCut ck_Log_latestCut
theorem me_Orders_init : mj_m 39716032 = some (yX8_init, cX8_init, none, false, 2, 338) := by rfl
theorem mo_Orders_init : mj_okM 39716032 := mj_okM_of me_Orders_init mf_Orders_init
theorem mb_Orders_init : mj_okB (39716032, bl_Orders_init) := mj_okB_of me_Orders_init ck_Orders_init
theorem me_Orders_copy : mj_m 39848129 = some (yX8_copy, cX8_copy, none, false, 1, 630) := by rfl
theorem mo_Orders_copy : mj_okM 39848129 := mj_okM_of me_Orders_copy mf_Orders_copy
theorem mb_Orders_copy : mj_okB (39848129, bl_Orders_copy) := mj_okB_of me_Orders_copy ck_Orders_copy
theorem me_Orders_add : mj_m 39980226 = some (yX8_add, cX8_add, none, false, 1, 822) := by rfl
theorem mo_Orders_add : mj_okM 39980226 := mj_okM_of me_Orders_add mf_Orders_add
theorem mb_Orders_add : mj_okB (39980226, bl_Orders_add) := mj_okB_of me_Orders_add ck_Orders_add
theorem me_Orders_isOpen : mj_m 40175809 = some (yX8_isOpen, cX8_isOpen, some .boolean, false, 1, 585) := by rfl
theorem mo_Orders_isOpen : mj_okM 40175809 := mj_okM_of me_Orders_isOpen mf_Orders_isOpen
theorem mb_Orders_isOpen : mj_okB (40175809, bl_Orders_isOpen) := mj_okB_of me_Orders_isOpen ck_Orders_isOpen
theorem me_Orders_shut : mj_m 40241345 = some (yX8_shut, cX8_shut, none, false, 1, 1252) := by rfl
theorem mo_Orders_shut : mj_okM 40241345 := mj_okM_of me_Orders_shut mf_Orders_shut
theorem mb_Orders_shut : mj_okB (40241345, bl_Orders_shut) := mj_okB_of me_Orders_shut ck_Orders_shut
theorem me_Tape_init : mj_m 40371424 = some (yX9_init, cX9_init, none, false, 2, 158) := by rfl
theorem mo_Tape_init : mj_okM 40371424 := mj_okM_of me_Tape_init mf_Tape_init
theorem mb_Tape_init : mj_okB (40371424, bl_Tape_init) := mj_okB_of me_Tape_init ck_Tape_init
theorem me_Tape_push : mj_m 40504545 = some (yX9_push, cX9_push, none, false, 1, 518) := by rfl
theorem mo_Tape_push : mj_okM 40504545 := mj_okM_of me_Tape_push mf_Tape_push
theorem mb_Tape_push : mj_okB (40504545, bl_Tape_push) := mj_okB_of me_Tape_push ck_Tape_push
theorem me_Tape_start : mj_m 40633568 = some (yX9_start, cX9_start, none, false, 1, 670) := by rfl
theorem mo_Tape_start : mj_okM 40633568 := mj_okM_of me_Tape_start mf_Tape_start
theorem mb_Tape_start : mj_okB (40633568, bl_Tape_start) := mj_okB_of me_Tape_start ck_Tape_start
theorem me_Tape_failed : mj_m 40830176 = some (yX9_failed, cX9_failed, some .boolean, false, 1, 682) := by rfl
theorem mo_Tape_failed : mj_okM 40830176 := mj_okM_of me_Tape_failed mf_Tape_failed
theorem mb_Tape_failed : mj_okB (40830176, bl_Tape_failed) := mj_okB_of me_Tape_failed ck_Tape_failed
theorem me_Tape_fail : mj_m 40895712 = some (yX9_fail, cX9_fail, none, false, 1, 694) := by rfl
theorem mo_Tape_fail : mj_okM 40895712 := mj_okM_of me_Tape_fail mf_Tape_fail
theorem mb_Tape_fail : mj_okB (40895712, bl_Tape_fail) := mj_okB_of me_Tape_fail ck_Tape_fail
theorem me_Tape_lineComes : mj_m 41094370 = some (yX9_lineComes, cX9_lineComes, some .boolean, false, 1, 678) := by rfl
theorem mo_Tape_lineComes : mj_okM 41094370 := mj_okM_of me_Tape_lineComes mf_Tape_lineComes
theorem mb_Tape_lineComes : mj_okB (41094370, bl_Tape_lineComes) := mj_okB_of me_Tape_lineComes ck_Tape_lineComes
theorem me_Tape_isSign : mj_m 41224417 = some (yX9_isSign, cX9_isSign, some .boolean, false, 1, 690) := by rfl
theorem mo_Tape_isSign : mj_okM 41224417 := mj_okM_of me_Tape_isSign mf_Tape_isSign
theorem mb_Tape_isSign : mj_okB (41224417, bl_Tape_isSign) := mj_okB_of me_Tape_isSign ck_Tape_isSign
theorem me_Tape_takeSign : mj_m 41356513 = some (yX9_takeSign, cX9_takeSign, some .boolean, false, 1, 686) := by rfl
theorem mo_Tape_takeSign : mj_okM 41356513 := mj_okM_of me_Tape_takeSign mf_Tape_takeSign
theorem mb_Tape_takeSign : mj_okB (41356513, bl_Tape_takeSign) := mj_okB_of me_Tape_takeSign ck_Tape_takeSign
theorem me_Tape_isWord : mj_m 41488609 = some (yX9_isWord, cX9_isWord, some .boolean, false, 1, 702) := by rfl
theorem mo_Tape_isWord : mj_okM 41488609 := mj_okM_of me_Tape_isWord mf_Tape_isWord
theorem mb_Tape_isWord : mj_okB (41488609, bl_Tape_isWord) := mj_okB_of me_Tape_isWord ck_Tape_isWord
theorem me_Tape_takeWord : mj_m 41618657 = some (yX9_takeWord, cX9_takeWord, some .boolean, false, 1, 761) := by rfl
theorem mo_Tape_takeWord : mj_okM 41618657 := mj_okM_of me_Tape_takeWord mf_Tape_takeWord
theorem mb_Tape_takeWord : mj_okB (41618657, bl_Tape_takeWord) := mj_okB_of me_Tape_takeWord ck_Tape_takeWord
theorem me_Tape_needWord : mj_m 41683169 = some (yX9_needWord, cX9_needWord, none, false, 1, 757) := by rfl
theorem mo_Tape_needWord : mj_okM 41683169 := mj_okM_of me_Tape_needWord mf_Tape_needWord
theorem mb_Tape_needWord : mj_okB (41683169, bl_Tape_needWord) := mj_okB_of me_Tape_needWord ck_Tape_needWord
theorem me_Tape_isNumber : mj_m 41878752 = some (yX9_isNumber, cX9_isNumber, some .boolean, false, 1, 798) := by rfl
theorem mo_Tape_isNumber : mj_okM 41878752 := mj_okM_of me_Tape_isNumber mf_Tape_isNumber
theorem mb_Tape_isNumber : mj_okB (41878752, bl_Tape_isNumber) := mj_okB_of me_Tape_isNumber ck_Tape_isNumber
theorem me_Tape_takeNumber : mj_m 41948386 = some (yX9_takeNumber, cX9_takeNumber, some .int, false, 1, 774) := by rfl
theorem mo_Tape_takeNumber : mj_okM 41948386 := mj_okM_of me_Tape_takeNumber mf_Tape_takeNumber
theorem mb_Tape_takeNumber : mj_okB (41948386, bl_Tape_takeNumber) := mj_okB_of me_Tape_takeNumber ck_Tape_takeNumber
theorem me_Tape_isDigit : mj_m 42140897 = some (yX9_isDigit, cX9_isDigit, some .boolean, false, 0, 777) := by rfl
theorem mo_Tape_isDigit : mj_okM 42140897 := mj_okM_of me_Tape_isDigit mf_Tape_isDigit
theorem mb_Tape_isDigit : mj_okB (42140897, bl_Tape_isDigit) := mj_okB_of me_Tape_isDigit ck_Tape_isDigit
theorem me_Tape_moveTo : mj_m 42207457 = some (yX9_moveTo, cX9_moveTo, none, false, 1, 674) := by rfl
theorem mo_Tape_moveTo : mj_okM 42207457 := mj_okM_of me_Tape_moveTo mf_Tape_moveTo
theorem mb_Tape_moveTo : mj_okB (42207457, bl_Tape_moveTo) := mj_okB_of me_Tape_moveTo ck_Tape_moveTo
theorem me_Ways_init : mj_m 42337536 = some (yX10_init, cX10_init, none, false, 2, 182) := by rfl
theorem mo_Ways_init : mj_okM 42337536 := mj_okM_of me_Ways_init mf_Ways_init
theorem mb_Ways_init : mj_okB (42337536, bl_Ways_init) := mj_okB_of me_Ways_init ck_Ways_init
theorem me_Ways_takePieces : mj_m 42537217 = some (yX10_takePieces, cX10_takePieces, some .boolean, false, 1, 1382) := by rfl
theorem mo_Ways_takePieces : mj_okM 42537217 := mj_okM_of me_Ways_takePieces mf_Ways_takePieces
theorem mb_Ways_takePieces : mj_okB (42537217, bl_Ways_takePieces) := mj_okB_of me_Ways_takePieces ck_Ways_takePieces
theorem me_Ways_takeSeen : mj_m 42668289 = some (yX10_takeSeen, cX10_takeSeen, some .boolean, false, 1, 1425) := by rfl
theorem mo_Ways_takeSeen : mj_okM 42668289 := mj_okM_of me_Ways_takeSeen mf_Ways_takeSeen
theorem mb_Ways_takeSeen : mj_okB (42668289, bl_Ways_takeSeen) := mj_okB_of me_Ways_takeSeen ck_Ways_takeSeen
theorem me_Ways_takeTelling : mj_m 42799362 = some (yX10_takeTelling, cX10_takeTelling, some .boolean, false, 1, 1386) := by rfl
theorem mo_Ways_takeTelling : mj_okM 42799362 := mj_okM_of me_Ways_takeTelling mf_Ways_takeTelling
theorem mb_Ways_takeTelling : mj_okB (42799362, bl_Ways_takeTelling) := mj_okB_of me_Ways_takeTelling ck_Ways_takeTelling
theorem me_Ways_beginTrying : mj_m 42862848 = some (yX10_beginTrying, cX10_beginTrying, none, false, 1, 1399) := by rfl
theorem mo_Ways_beginTrying : mj_okM 42862848 := mj_okM_of me_Ways_beginTrying mf_Ways_beginTrying
theorem mb_Ways_beginTrying : mj_okB (42862848, bl_Ways_beginTrying) := mj_okB_of me_Ways_beginTrying ck_Ways_beginTrying
theorem me_Ways_keepTried : mj_m 42993921 = some (yX10_keepTried, cX10_keepTried, none, false, 1, 1406) := by rfl
theorem mo_Ways_keepTried : mj_okM 42993921 := mj_okM_of me_Ways_keepTried mf_Ways_keepTried
theorem mb_Ways_keepTried : mj_okB (42993921, bl_Ways_keepTried) := mj_okB_of me_Ways_keepTried ck_Ways_keepTried
theorem me_Ways_fewestRods : mj_m 43124993 = some (yX10_fewestRods, cX10_fewestRods, some .int, false, 1, 1395) := by rfl
theorem mo_Ways_fewestRods : mj_okM 43124993 := mj_okM_of me_Ways_fewestRods mf_Ways_fewestRods
theorem mb_Ways_fewestRods : mj_okB (43124993, bl_Ways_fewestRods) := mj_okB_of me_Ways_fewestRods ck_Ways_fewestRods
theorem me_Ways_tryRods : mj_m 43260164 = some (yX10_tryRods, cX10_tryRods, none, false, 0, 1402) := by rfl
theorem mo_Ways_tryRods : mj_okM 43260164 := mj_okM_of me_Ways_tryRods mf_Ways_tryRods
theorem mb_Ways_tryRods : mj_okB (43260164, bl_Ways_tryRods) := mj_okB_of me_Ways_tryRods ck_Ways_tryRods
theorem me_Ways_bestTeam : mj_m 43387137 = some (yX10_bestTeam, cX10_bestTeam, some .int, false, 1, 1462) := by rfl
theorem mo_Ways_bestTeam : mj_okM 43387137 := mj_okM_of me_Ways_bestTeam mf_Ways_bestTeam
theorem mb_Ways_bestTeam : mj_okB (43387137, bl_Ways_bestTeam) := mj_okB_of me_Ways_bestTeam ck_Ways_bestTeam
theorem me_Ways_tryTeam : mj_m 43523333 = some (yX10_tryTeam, cX10_tryTeam, none, false, 0, 1465) := by rfl
theorem mo_Ways_tryTeam : mj_okM 43523333 := mj_okM_of me_Ways_tryTeam mf_Ways_tryTeam
theorem mb_Ways_tryTeam : mj_okB (43523333, bl_Ways_tryTeam) := mj_okB_of me_Ways_tryTeam ck_Ways_tryTeam
theorem me_Ways_bestPairs : mj_m 43649281 = some (yX10_bestPairs, cX10_bestPairs, some .int, false, 1, 1476) := by rfl
theorem mo_Ways_bestPairs : mj_okM 43649281 := mj_okM_of me_Ways_bestPairs mf_Ways_bestPairs
theorem mb_Ways_bestPairs : mj_okB (43649281, bl_Ways_bestPairs) := mj_okB_of me_Ways_bestPairs ck_Ways_bestPairs
theorem me_Ways_tryPairs : mj_m 43783428 = some (yX10_tryPairs, cX10_tryPairs, none, false, 0, 1479) := by rfl
theorem mo_Ways_tryPairs : mj_okM 43783428 := mj_okM_of me_Ways_tryPairs mf_Ways_tryPairs
theorem mb_Ways_tryPairs : mj_okB (43783428, bl_Ways_tryPairs) := mj_okB_of me_Ways_tryPairs ck_Ways_tryPairs
theorem me_Ways_findWeaves : mj_m 43913472 = some (yX10_findWeaves, cX10_findWeaves, none, false, 1, 1429) := by rfl
theorem mo_Ways_findWeaves : mj_okM 43913472 := mj_okM_of me_Ways_findWeaves mf_Ways_findWeaves
theorem mb_Ways_findWeaves : mj_okB (43913472, bl_Ways_findWeaves) := mj_okB_of me_Ways_findWeaves ck_Ways_findWeaves
theorem me_Ways_keepIfSeen : mj_m 44044545 = some (yX10_keepIfSeen, cX10_keepIfSeen, none, false, 1, 1433) := by rfl
theorem mo_Ways_keepIfSeen : mj_okM 44044545 := mj_okM_of me_Ways_keepIfSeen mf_Ways_keepIfSeen
theorem mb_Ways_keepIfSeen : mj_okB (44044545, bl_Ways_keepIfSeen) := mj_okB_of me_Ways_keepIfSeen ck_Ways_keepIfSeen
theorem me_Ways_isOver : mj_m 44241154 = some (yX10_isOver, cX10_isOver, some .boolean, false, 0, 1436) := by rfl
theorem mo_Ways_isOver : mj_okM 44241154 := mj_okM_of me_Ways_isOver mf_Ways_isOver
theorem mb_Ways_isOver : mj_okB (44241154, bl_Ways_isOver) := mj_okB_of me_Ways_isOver ck_Ways_isOver
theorem me_Ways_placeToLook : mj_m 44307712 = some (yX10_placeToLook, cX10_placeToLook, some .int, false, 1, 1447) := by rfl
theorem mo_Ways_placeToLook : mj_okM 44307712 := mj_okM_of me_Ways_placeToLook mf_Ways_placeToLook
theorem mb_Ways_placeToLook : mj_okB (44307712, bl_Ways_placeToLook) := mj_okB_of me_Ways_placeToLook ck_Ways_placeToLook
theorem me_Ways_greaterPart : mj_m 44437761 = some (yX10_greaterPart, cX10_greaterPart, some .int, false, 1, 1451) := by rfl
theorem mo_Ways_greaterPart : mj_okM 44437761 := mj_okM_of me_Ways_greaterPart mf_Ways_greaterPart
theorem mb_Ways_greaterPart : mj_okB (44437761, bl_Ways_greaterPart) := mj_okB_of me_Ways_greaterPart ck_Ways_greaterPart
theorem me_Ways_steps : mj_m 44574979 = some (yX10_steps, cX10_steps, some .int, false, 1, 1134) := by rfl
theorem mo_Ways_steps : mj_okM 44574979 := mj_okM_of me_Ways_steps mf_Ways_steps
theorem mb_Ways_steps : mj_okB (44574979, bl_Ways_steps) := mj_okB_of me_Ways_steps ck_Ways_steps
theorem me_Ways_nearest : mj_m 44702978 = some (yX10_nearest, cX10_nearest, some .int, false, 1, 1130) := by rfl
theorem mo_Ways_nearest : mj_okM 44702978 := mj_okM_of me_Ways_nearest mf_Ways_nearest
theorem mb_Ways_nearest : mj_okB (44702978, bl_Ways_nearest) := mj_okB_of me_Ways_nearest ck_Ways_nearest
theorem me_Ways_giveBundles : mj_m 44832002 = some (yX10_giveBundles, cX10_giveBundles, none, false, 1, 1498) := by rfl
theorem mo_Ways_giveBundles : mj_okM 44832002 := mj_okM_of me_Ways_giveBundles mf_Ways_giveBundles
theorem mb_Ways_giveBundles : mj_okB (44832002, bl_Ways_giveBundles) := mj_okB_of me_Ways_giveBundles ck_Ways_giveBundles
theorem me_Ways_nextToGive : mj_m 44964097 = some (yX10_nextToGive, cX10_nextToGive, some .int, false, 1, 1502) := by rfl
theorem mo_Ways_nextToGive : mj_okM 44964097 := mj_okM_of me_Ways_nextToGive mf_Ways_nextToGive
theorem mb_Ways_nextToGive : mj_okB (44964097, bl_Ways_nextToGive) := mj_okB_of me_Ways_nextToGive ck_Ways_nextToGive
theorem me_Lw_holt : mj_m 45092258 = some (yL_holt, cL_holt, some .int, true, 0, 657) := by rfl
theorem mo_Lw_holt : mj_okM 45092258 := mj_okM_of me_Lw_holt mf_Lw_holt
theorem mb_Lw_holt : mj_okB (45092258, bl_Lw_holt) := mj_okB_of me_Lw_holt ck_Lw_holt
theorem me_Lw_law : mj_m 45223330 = some (yL_law, cL_law, some .int, true, 0, 918) := by rfl
theorem mo_Lw_law : mj_okM 45223330 := mj_okM_of me_Lw_law mf_Lw_law
theorem mb_Lw_law : mj_okB (45223330, bl_Lw_law) := mj_okB_of me_Lw_law ck_Lw_law
theorem me_Lw_bed : mj_m 45356452 = some (yL_bed, cL_bed, some .int, true, 0, 986) := by rfl
theorem mo_Lw_bed : mj_okM 45356452 := mj_okM_of me_Lw_bed mf_Lw_bed
theorem mb_Lw_bed : mj_okB (45356452, bl_Lw_bed) := mj_okB_of me_Lw_bed ck_Lw_bed
theorem me_Lw_basket : mj_m 45487524 = some (yL_basket, cL_basket, some .int, true, 0, 1075) := by rfl
theorem mo_Lw_basket : mj_okM 45487524 := mj_okM_of me_Lw_basket mf_Lw_basket
theorem mb_Lw_basket : mj_okB (45487524, bl_Lw_basket) := mj_okB_of me_Lw_basket ck_Lw_basket
theorem me_Lw_run : mj_m 45618596 = some (yL_run, cL_run, some .int, true, 0, 1142) := by rfl
theorem mo_Lw_run : mj_okM 45618596 := mj_okM_of me_Lw_run mf_Lw_run
theorem mb_Lw_run : mj_okB (45618596, bl_Lw_run) := mj_okB_of me_Lw_run ck_Lw_run
theorem me_Lw_over : mj_m 45750693 = some (yL_over, cL_over, some .int, true, 0, 1150) := by rfl
theorem mo_Lw_over : mj_okM 45750693 := mj_okM_of me_Lw_over mf_Lw_over
theorem mb_Lw_over : mj_okB (45750693, bl_Lw_over) := mj_okB_of me_Lw_over ck_Lw_over
theorem me_Lw_sound : mj_m 45879715 = some (yL_sound, cL_sound, some .int, true, 0, 1159) := by rfl
theorem mo_Lw_sound : mj_okM 45879715 := mj_okM_of me_Lw_sound mf_Lw_sound
theorem mb_Lw_sound : mj_okB (45879715, bl_Lw_sound) := mj_okB_of me_Lw_sound ck_Lw_sound
theorem me_Lw_store : mj_m 46010787 = some (yL_store, cL_store, some .int, true, 0, 1166) := by rfl
theorem mo_Lw_store : mj_okM 46010787 := mj_okM_of me_Lw_store mf_Lw_store
theorem mb_Lw_store : mj_okB (46010787, bl_Lw_store) := mj_okB_of me_Lw_store ck_Lw_store
theorem me_Lw_hand : mj_m 46142884 = some (yL_hand, cL_hand, some .int, true, 0, 1176) := by rfl
theorem mo_Lw_hand : mj_okM 46142884 := mj_okM_of me_Lw_hand mf_Lw_hand
theorem mb_Lw_hand : mj_okB (46142884, bl_Lw_hand) := mj_okB_of me_Lw_hand ck_Lw_hand
theorem me_Lw_order : mj_m 46273956 = some (yL_order, cL_order, some .int, true, 0, 1187) := by rfl
theorem mo_Lw_order : mj_okM 46273956 := mj_okM_of me_Lw_order mf_Lw_order
theorem mb_Lw_order : mj_okB (46273956, bl_Lw_order) := mj_okB_of me_Lw_order ck_Lw_order
theorem me_Lw_years : mj_m 46404003 = some (yL_years, cL_years, some .int, true, 0, 1200) := by rfl
theorem mo_Lw_years : mj_okM 46404003 := mj_okM_of me_Lw_years mf_Lw_years
theorem mb_Lw_years : mj_okB (46404003, bl_Lw_years) := mj_okB_of me_Lw_years ck_Lw_years
theorem me_Lw_cut : mj_m 46535075 = some (yL_cut, cL_cut, some .int, true, 0, 1259) := by rfl
theorem mo_Lw_cut : mj_okM 46535075 := mj_okM_of me_Lw_cut mf_Lw_cut
theorem mb_Lw_cut : mj_okB (46535075, bl_Lw_cut) := mj_okB_of me_Lw_cut ck_Lw_cut
theorem me_Lw_buy : mj_m 46667172 = some (yL_buy, cL_buy, some .int, true, 0, 1288) := by rfl
theorem mo_Lw_buy : mj_okM 46667172 := mj_okM_of me_Lw_buy mf_Lw_buy
theorem mb_Lw_buy : mj_okB (46667172, bl_Lw_buy) := mj_okB_of me_Lw_buy ck_Lw_buy
theorem me_Lw_sell : mj_m 46798244 = some (yL_sell, cL_sell, some .int, true, 0, 1295) := by rfl
theorem mo_Lw_sell : mj_okM 46798244 := mj_okM_of me_Lw_sell mf_Lw_sell
theorem mb_Lw_sell : mj_okB (46798244, bl_Lw_sell) := mj_okB_of me_Lw_sell ck_Lw_sell
theorem me_Lw_take : mj_m 46929316 = some (yL_take, cL_take, some .int, true, 0, 1303) := by rfl
theorem mo_Lw_take : mj_okM 46929316 := mj_okM_of me_Lw_take mf_Lw_take
theorem mb_Lw_take : mj_okB (46929316, bl_Lw_take) := mj_okB_of me_Lw_take ck_Lw_take
theorem me_Lw_drop : mj_m 47058338 = some (yL_drop, cL_drop, some .int, true, 0, 1311) := by rfl
theorem mo_Lw_drop : mj_okM 47058338 := mj_okM_of me_Lw_drop mf_Lw_drop
theorem mb_Lw_drop : mj_okB (47058338, bl_Lw_drop) := mj_okB_of me_Lw_drop ck_Lw_drop
theorem me_Lw_drain : mj_m 47191460 = some (yL_drain, cL_drain, some .int, true, 0, 1319) := by rfl
theorem mo_Lw_drain : mj_okM 47191460 := mj_okM_of me_Lw_drain mf_Lw_drain
theorem mb_Lw_drain : mj_okB (47191460, bl_Lw_drain) := mj_okB_of me_Lw_drain ck_Lw_drain
theorem me_Lw_hire : mj_m 47322532 = some (yL_hire, cL_hire, some .int, true, 0, 1326) := by rfl
theorem mo_Lw_hire : mj_okM 47322532 := mj_okM_of me_Lw_hire mf_Lw_hire
theorem mb_Lw_hire : mj_okB (47322532, bl_Lw_hire) := mj_okB_of me_Lw_hire ck_Lw_hire
theorem me_Lw_teach : mj_m 47452579 = some (yL_teach, cL_teach, some .int, true, 0, 1334) := by rfl
theorem mo_Lw_teach : mj_okM 47452579 := mj_okM_of me_Lw_teach mf_Lw_teach
theorem mb_Lw_teach : mj_okB (47452579, bl_Lw_teach) := mj_okB_of me_Lw_teach ck_Lw_teach
theorem me_Lw_make : mj_m 47583651 = some (yL_make, cL_make, some .int, true, 0, 1341) := by rfl
theorem mo_Lw_make : mj_okM 47583651 := mj_okM_of me_Lw_make mf_Lw_make
theorem mb_Lw_make : mj_okB (47583651, bl_Lw_make) := mj_okB_of me_Lw_make ck_Lw_make
theorem me_Lw_gain : mj_m 47715748 = some (yL_gain, cL_gain, some .int, true, 0, 1350) := by rfl
theorem mo_Lw_gain : mj_okM 47715748 := mj_okM_of me_Lw_gain mf_Lw_gain
theorem mb_Lw_gain : mj_okB (47715748, bl_Lw_gain) := mj_okB_of me_Lw_gain ck_Lw_gain
theorem me_Lw_cuts : mj_m 47846820 = some (yL_cuts, cL_cuts, some .int, true, 0, 1367) := by rfl
theorem mo_Lw_cuts : mj_okM 47846820 := mj_okM_of me_Lw_cuts mf_Lw_cuts
theorem mb_Lw_cuts : mj_okB (47846820, bl_Lw_cuts) := mj_okB_of me_Lw_cuts ck_Lw_cuts
theorem me_Lw_pieces : mj_m 47976867 = some (yL_pieces, cL_pieces, some .int, true, 0, 1374) := by rfl
theorem mo_Lw_pieces : mj_okM 47976867 := mj_okM_of me_Lw_pieces mf_Lw_pieces
theorem mb_Lw_pieces : mj_okB (47976867, bl_Lw_pieces) := mj_okB_of me_Lw_pieces ck_Lw_pieces
theorem me_Lw_rod : mj_m 48108964 = some (yL_rod, cL_rod, some .int, true, 0, 1410) := by rfl
theorem mo_Lw_rod : mj_okM 48108964 := mj_okM_of me_Lw_rod mf_Lw_rod
theorem mb_Lw_rod : mj_okB (48108964, bl_Lw_rod) := mj_okB_of me_Lw_rod ck_Lw_rod
theorem me_Lw_found : mj_m 48239011 = some (yL_found, cL_found, some .int, true, 0, 1417) := by rfl
theorem mo_Lw_found : mj_okM 48239011 := mj_okM_of me_Lw_found mf_Lw_found
theorem mb_Lw_found : mj_okB (48239011, bl_Lw_found) := mj_okB_of me_Lw_found ck_Lw_found
theorem me_Lw_look : mj_m 48369058 = some (yL_look, cL_look, some .int, true, 0, 1439) := by rfl
theorem mo_Lw_look : mj_okM 48369058 := mj_okM_of me_Lw_look mf_Lw_look
theorem mb_Lw_look : mj_okB (48369058, bl_Lw_look) := mj_okB_of me_Lw_look ck_Lw_look
theorem me_Lw_team : mj_m 48501155 = some (yL_team, cL_team, some .int, true, 0, 1454) := by rfl
theorem mo_Lw_team : mj_okM 48501155 := mj_okM_of me_Lw_team mf_Lw_team
theorem mb_Lw_team : mj_okB (48501155, bl_Lw_team) := mj_okB_of me_Lw_team ck_Lw_team
theorem me_Lw_pairs : mj_m 48632227 = some (yL_pairs, cL_pairs, some .int, true, 0, 1468) := by rfl
theorem mo_Lw_pairs : mj_okM 48632227 := mj_okM_of me_Lw_pairs mf_Lw_pairs
theorem mb_Lw_pairs : mj_okB (48632227, bl_Lw_pairs) := mj_okB_of me_Lw_pairs ck_Lw_pairs
theorem me_Lw_change : mj_m 48764324 = some (yL_change, cL_change, some .int, true, 0, 1482) := by rfl
theorem mo_Lw_change : mj_okM 48764324 := mj_okM_of me_Lw_change mf_Lw_change
theorem mb_Lw_change : mj_okB (48764324, bl_Lw_change) := mj_okB_of me_Lw_change ck_Lw_change
theorem me_Lw_share : mj_m 48895396 = some (yL_share, cL_share, some .int, true, 0, 1490) := by rfl
theorem mo_Lw_share : mj_okM 48895396 := mj_okM_of me_Lw_share mf_Lw_share
theorem mb_Lw_share : mj_okB (48895396, bl_Lw_share) := mj_okB_of me_Lw_share ck_Lw_share
theorem me_Lw_price : mj_m 49025443 = some (yL_price, cL_price, some .int, true, 0, 1505) := by rfl
theorem mo_Lw_price : mj_okM 49025443 := mj_okM_of me_Lw_price mf_Lw_price
theorem mb_Lw_price : mj_okB (49025443, bl_Lw_price) := mj_okB_of me_Lw_price ck_Lw_price
theorem me_Lw_rests : mj_m 49156515 = some (yL_rests, cL_rests, some .int, true, 0, 1520) := by rfl
theorem mo_Lw_rests : mj_okM 49156515 := mj_okM_of me_Lw_rests mf_Lw_rests
theorem mb_Lw_rests : mj_okB (49156515, bl_Lw_rests) := mj_okB_of me_Lw_rests ck_Lw_rests
theorem me_Lw_odds : mj_m 49288612 = some (yL_odds, cL_odds, some .int, true, 0, 1530) := by rfl
theorem mo_Lw_odds : mj_okM 49288612 := mj_okM_of me_Lw_odds mf_Lw_odds
theorem mb_Lw_odds : mj_okB (49288612, bl_Lw_odds) := mj_okB_of me_Lw_odds ck_Lw_odds
theorem me_Lw_most : mj_m 49418659 = some (yL_most, cL_most, some .int, true, 0, 1544) := by rfl
theorem mo_Lw_most : mj_okM 49418659 := mj_okM_of me_Lw_most mf_Lw_most
theorem mb_Lw_most : mj_okB (49418659, bl_Lw_most) := mj_okB_of me_Lw_most ck_Lw_most
theorem me_Lw_sort : mj_m 49549731 = some (yL_sort, cL_sort, some .int, true, 0, 1554) := by rfl
theorem mo_Lw_sort : mj_okM 49549731 := mj_okM_of me_Lw_sort mf_Lw_sort
theorem mb_Lw_sort : mj_okB (49549731, bl_Lw_sort) := mj_okB_of me_Lw_sort ck_Lw_sort
theorem me_Lw_ahead : mj_m 49682853 = some (yL_ahead, cL_ahead, some .int, true, 0, 1565) := by rfl
theorem mo_Lw_ahead : mj_okM 49682853 := mj_okM_of me_Lw_ahead mf_Lw_ahead
theorem mb_Lw_ahead : mj_okB (49682853, bl_Lw_ahead) := mj_okB_of me_Lw_ahead ck_Lw_ahead
theorem me_Lw_trial : mj_m 49812900 = some (yL_trial, cL_trial, some .int, true, 0, 1576) := by rfl
theorem mo_Lw_trial : mj_okM 49812900 := mj_okM_of me_Lw_trial mf_Lw_trial
theorem mb_Lw_trial : mj_okB (49812900, bl_Lw_trial) := mj_okB_of me_Lw_trial ck_Lw_trial
theorem me_Lw_span : mj_m 49943972 = some (yL_span, cL_span, some .int, true, 0, 1583) := by rfl
theorem mo_Lw_span : mj_okM 49943972 := mj_okM_of me_Lw_span mf_Lw_span
theorem mb_Lw_span : mj_okB (49943972, bl_Lw_span) := mj_okB_of me_Lw_span ck_Lw_span
theorem me_Lw_led : mj_m 50075044 = some (yL_led, cL_led, some .int, true, 0, 1590) := by rfl
theorem mo_Lw_led : mj_okM 50075044 := mj_okM_of me_Lw_led mf_Lw_led
theorem mb_Lw_led : mj_okB (50075044, bl_Lw_led) := mj_okB_of me_Lw_led ck_Lw_led
theorem me_Lw_log : mj_m 50206116 = some (yL_log, cL_log, some .int, true, 0, 1613) := by rfl
theorem mo_Lw_log : mj_okM 50206116 := mj_okM_of me_Lw_log mf_Lw_log
theorem mb_Lw_log : mj_okB (50206116, bl_Lw_log) := mj_okB_of me_Lw_log ck_Lw_log
theorem me_Lw_lawmain : mj_m 50404769 = some (yL_law_, code, some .boolean, false, 0, 0) := by rfl
theorem mb_Lw_lawmain : mj_okB (50404769, bl_Lw_lawmain) := mj_okB_of me_Lw_lawmain ck_Lw_lawmain
theorem me_JInt_bitCount : mj_m 50464193 = some (yJ6_bitCount_0f7a4, cJ6_bitCount_0f7a4, some .int, false, 0, 545) := by rfl
theorem mo_JInt_bitCount : mj_okM 50464193 := mj_okM_of me_JInt_bitCount mf_JInt_bitCount
theorem mb_JInt_bitCount : mj_okB (50464193, bl_JInt_bitCount) := mj_okB_of me_JInt_bitCount ck_JInt_bitCount
theorem mj_bls_0_ok : ∀ q ∈ mj_bls_0, mj_okB q := List.forall_mem_cons.mpr ⟨mb_Main_init, List.forall_mem_cons.mpr ⟨mb_Main_feed, List.forall_mem_cons.mpr ⟨mb_Main_end, List.forall_mem_cons.mpr ⟨mb_Main_holt, List.forall_mem_cons.mpr ⟨mb_Main_law, List.forall_mem_cons.mpr ⟨mb_Main_fault, List.forall_mem_cons.mpr ⟨mb_Main_bed, List.forall_mem_cons.mpr ⟨mb_Main_basket, List.forall_mem_cons.mpr ⟨mb_Main_run, List.forall_mem_cons.mpr ⟨mb_Main_over, List.forall_mem_cons.mpr ⟨mb_Main_sound, List.forall_mem_cons.mpr ⟨mb_Main_store, List.forall_mem_cons.mpr ⟨mb_Main_hand, List.forall_mem_cons.mpr ⟨mb_Main_order, List.forall_mem_cons.mpr ⟨mb_Main_years, List.forall_mem_cons.mpr ⟨mb_Main_cut, List.forall_mem_cons.mpr ⟨mb_Main_buy, List.forall_mem_cons.mpr ⟨mb_Main_sell, List.forall_mem_cons.mpr ⟨mb_Main_take, List.forall_mem_cons.mpr ⟨mb_Main_drop, List.forall_mem_cons.mpr ⟨mb_Main_drain, List.forall_mem_cons.mpr ⟨mb_Main_hire, List.forall_mem_cons.mpr ⟨mb_Main_teach, List.forall_mem_cons.mpr ⟨mb_Main_make, List.forall_mem_cons.mpr ⟨mb_Main_gain, List.forall_mem_cons.mpr ⟨mb_Main_cuts, List.forall_mem_cons.mpr ⟨mb_Main_worth, List.forall_mem_cons.mpr ⟨mb_Main_fills, List.forall_mem_cons.mpr ⟨mb_Main_pieces, List.forall_mem_cons.mpr ⟨mb_Main_rod, List.forall_mem_cons.mpr ⟨mb_Main_found, List.forall_mem_cons.mpr ⟨mb_Main_look, List.forall_mem_cons.mpr ⟨mb_Main_team, List.forall_mem_cons.mpr ⟨mb_Main_pairs, List.forall_mem_cons.mpr ⟨mb_Main_change, List.forall_mem_cons.mpr ⟨mb_Main_share, List.forall_mem_cons.mpr ⟨mb_Main_price, List.forall_mem_cons.mpr ⟨mb_Main_rests, List.forall_mem_cons.mpr ⟨mb_Main_odds, List.forall_mem_cons.mpr ⟨mb_Main_most, fun _ h => nomatch h⟩⟩⟩⟩⟩⟩⟩⟩⟩⟩⟩⟩⟩⟩⟩⟩⟩⟩⟩⟩⟩⟩⟩⟩⟩⟩⟩⟩⟩⟩⟩⟩⟩⟩⟩⟩⟩⟩⟩⟩
theorem mj_mt_0_ok : ∀ q ∈ mj_mt_0, q.1 ≠ j_Lw_lawmain → mj_okM q.1 := List.forall_mem_cons.mpr ⟨fun h => mo_Main_init, List.forall_mem_cons.mpr ⟨fun h => mo_Main_feed, List.forall_mem_cons.mpr ⟨fun h => mo_Main_end, List.forall_mem_cons.mpr ⟨fun h => mo_Main_holt, List.forall_mem_cons.mpr ⟨fun h => mo_Main_law, List.forall_mem_cons.mpr ⟨fun h => mo_Main_fault, List.forall_mem_cons.mpr ⟨fun h => mo_Main_bed, List.forall_mem_cons.mpr ⟨fun h => mo_Main_basket, List.forall_mem_cons.mpr ⟨fun h => mo_Main_run, List.forall_mem_cons.mpr ⟨fun h => mo_Main_over, List.forall_mem_cons.mpr ⟨fun h => mo_Main_sound, List.forall_mem_cons.mpr ⟨fun h => mo_Main_store, List.forall_mem_cons.mpr ⟨fun h => mo_Main_hand, List.forall_mem_cons.mpr ⟨fun h => mo_Main_order, List.forall_mem_cons.mpr ⟨fun h => mo_Main_years, List.forall_mem_cons.mpr ⟨fun h => mo_Main_cut, List.forall_mem_cons.mpr ⟨fun h => mo_Main_buy, List.forall_mem_cons.mpr ⟨fun h => mo_Main_sell, List.forall_mem_cons.mpr ⟨fun h => mo_Main_take, List.forall_mem_cons.mpr ⟨fun h => mo_Main_drop, List.forall_mem_cons.mpr ⟨fun h => mo_Main_drain, List.forall_mem_cons.mpr ⟨fun h => mo_Main_hire, List.forall_mem_cons.mpr ⟨fun h => mo_Main_teach, List.forall_mem_cons.mpr ⟨fun h => mo_Main_make, List.forall_mem_cons.mpr ⟨fun h => mo_Main_gain, List.forall_mem_cons.mpr ⟨fun h => mo_Main_cuts, List.forall_mem_cons.mpr ⟨fun h => mo_Main_worth, List.forall_mem_cons.mpr ⟨fun h => mo_Main_fills, List.forall_mem_cons.mpr ⟨fun h => mo_Main_pieces, List.forall_mem_cons.mpr ⟨fun h => mo_Main_rod, List.forall_mem_cons.mpr ⟨fun h => mo_Main_found, List.forall_mem_cons.mpr ⟨fun h => mo_Main_look, List.forall_mem_cons.mpr ⟨fun h => mo_Main_team, List.forall_mem_cons.mpr ⟨fun h => mo_Main_pairs, List.forall_mem_cons.mpr ⟨fun h => mo_Main_change, List.forall_mem_cons.mpr ⟨fun h => mo_Main_share, List.forall_mem_cons.mpr ⟨fun h => mo_Main_price, List.forall_mem_cons.mpr ⟨fun h => mo_Main_rests, List.forall_mem_cons.mpr ⟨fun h => mo_Main_odds, List.forall_mem_cons.mpr ⟨fun h => mo_Main_most, fun _ h => nomatch h⟩⟩⟩⟩⟩⟩⟩⟩⟩⟩⟩⟩⟩⟩⟩⟩⟩⟩⟩⟩⟩⟩⟩⟩⟩⟩⟩⟩⟩⟩⟩⟩⟩⟩⟩⟩⟩⟩⟩⟩
theorem mj_bls_1_ok : ∀ q ∈ mj_bls_1, mj_okB q := List.forall_mem_cons.mpr ⟨mb_Main_open, List.forall_mem_cons.mpr ⟨mb_Main_twins, List.forall_mem_cons.mpr ⟨mb_Main_sort, List.forall_mem_cons.mpr ⟨mb_Main_lengths, List.forall_mem_cons.mpr ⟨mb_Main_ahead, List.forall_mem_cons.mpr ⟨mb_Main_trial, List.forall_mem_cons.mpr ⟨mb_Main_span, List.forall_mem_cons.mpr ⟨mb_Main_led, List.forall_mem_cons.mpr ⟨mb_Main_log, List.forall_mem_cons.mpr ⟨mb_Main_seed, List.forall_mem_cons.mpr ⟨mb_Main_undo, List.forall_mem_cons.mpr ⟨mb_Main_image, List.forall_mem_cons.mpr ⟨mb_Main_back, List.forall_mem_cons.mpr ⟨mb_Main_count, List.forall_mem_cons.mpr ⟨mb_Main_needBed, List.forall_mem_cons.mpr ⟨mb_Main_needBasket, List.forall_mem_cons.mpr ⟨mb_Main_needHand, List.forall_mem_cons.mpr ⟨mb_Main_needOrder, List.forall_mem_cons.mpr ⟨mb_Main_needFeet, List.forall_mem_cons.mpr ⟨mb_Main_needIndex, List.forall_mem_cons.mpr ⟨mb_Main_needWithin, List.forall_mem_cons.mpr ⟨mb_Main_needTape, List.forall_mem_cons.mpr ⟨mb_Main_needPossible, List.forall_mem_cons.mpr ⟨mb_Main_remember, List.forall_mem_cons.mpr ⟨mb_Main_restBit, List.forall_mem_cons.mpr ⟨mb_Main_chanceOf, List.forall_mem_cons.mpr ⟨mb_Main_firstGreatest, List.forall_mem_cons.mpr ⟨mb_Mod_init, List.forall_mem_cons.mpr ⟨mb_Mod_thrown, List.forall_mem_cons.mpr ⟨mb_Mod_isIn, List.forall_mem_cons.mpr ⟨mb_Mod_lesser, List.forall_mem_cons.mpr ⟨mb_Mod_greater, List.forall_mem_cons.mpr ⟨mb_Mod_isOf, List.forall_mem_cons.mpr ⟨mb_Mod_bits, List.forall_mem_cons.mpr ⟨mb_Mod_ofBed, List.forall_mem_cons.mpr ⟨mb_Mod_ofBasket, List.forall_mem_cons.mpr ⟨mb_Mod_skill, List.forall_mem_cons.mpr ⟨mb_Mod_wage, List.forall_mem_cons.mpr ⟨mb_Mod_ofOrder, List.forall_mem_cons.mpr ⟨mb_Mod_stored, fun _ h => nomatch h⟩⟩⟩⟩⟩⟩⟩⟩⟩⟩⟩⟩⟩⟩⟩⟩⟩⟩⟩⟩⟩⟩⟩⟩⟩⟩⟩⟩⟩⟩⟩⟩⟩⟩⟩⟩⟩⟩⟩⟩
theorem mj_mt_1_ok : ∀ q ∈ mj_mt_1, q.1 ≠ j_Lw_lawmain → mj_okM q.1 := List.forall_mem_cons.mpr ⟨fun h => mo_Main_open, List.forall_mem_cons.mpr ⟨fun h => mo_Main_twins, List.forall_mem_cons.mpr ⟨fun h => mo_Main_sort, List.forall_mem_cons.mpr ⟨fun h => mo_Main_lengths, List.forall_mem_cons.mpr ⟨fun h => mo_Main_ahead, List.forall_mem_cons.mpr ⟨fun h => mo_Main_trial, List.forall_mem_cons.mpr ⟨fun h => mo_Main_span, List.forall_mem_cons.mpr ⟨fun h => mo_Main_led, List.forall_mem_cons.mpr ⟨fun h => mo_Main_log, List.forall_mem_cons.mpr ⟨fun h => mo_Main_seed, List.forall_mem_cons.mpr ⟨fun h => mo_Main_undo, List.forall_mem_cons.mpr ⟨fun h => mo_Main_image, List.forall_mem_cons.mpr ⟨fun h => mo_Main_back, List.forall_mem_cons.mpr ⟨fun h => mo_Main_count, List.forall_mem_cons.mpr ⟨fun h => mo_Main_needBed, List.forall_mem_cons.mpr ⟨fun h => mo_Main_needBasket, List.forall_mem_cons.mpr ⟨fun h => mo_Main_needHand, List.forall_mem_cons.mpr ⟨fun h => mo_Main_needOrder, List.forall_mem_cons.mpr ⟨fun h => mo_Main_needFeet, List.forall_mem_cons.mpr ⟨fun h => mo_Main_needIndex, List.forall_mem_cons.mpr ⟨fun h => mo_Main_needWithin, List.forall_mem_cons.mpr ⟨fun h => mo_Main_needTape, List.forall_mem_cons.mpr ⟨fun h => mo_Main_needPossible, List.forall_mem_cons.mpr ⟨fun h => mo_Main_remember, List.forall_mem_cons.mpr ⟨fun h => mo_Main_restBit, List.forall_mem_cons.mpr ⟨fun h => mo_Main_chanceOf, List.forall_mem_cons.mpr ⟨fun h => mo_Main_firstGreatest, List.forall_mem_cons.mpr ⟨fun h => mo_Mod_init, List.forall_mem_cons.mpr ⟨fun h => mo_Mod_thrown, List.forall_mem_cons.mpr ⟨fun h => mo_Mod_isIn, List.forall_mem_cons.mpr ⟨fun h => mo_Mod_lesser, List.forall_mem_cons.mpr ⟨fun h => mo_Mod_greater, List.forall_mem_cons.mpr ⟨fun h => mo_Mod_isOf, List.forall_mem_cons.mpr ⟨fun h => mo_Mod_bits, List.forall_mem_cons.mpr ⟨fun h => mo_Mod_ofBed, List.forall_mem_cons.mpr ⟨fun h => mo_Mod_ofBasket, List.forall_mem_cons.mpr ⟨fun h => mo_Mod_skill, List.forall_mem_cons.mpr ⟨fun h => mo_Mod_wage, List.forall_mem_cons.mpr ⟨fun h => mo_Mod_ofOrder, List.forall_mem_cons.mpr ⟨fun h => mo_Mod_stored, fun _ h => nomatch h⟩⟩⟩⟩⟩⟩⟩⟩⟩⟩⟩⟩⟩⟩⟩⟩⟩⟩⟩⟩⟩⟩⟩⟩⟩⟩⟩⟩⟩⟩⟩⟩⟩⟩⟩⟩⟩⟩⟩⟩
theorem mj_bls_2_ok : ∀ q ∈ mj_bls_2, mj_okB q := List.forall_mem_cons.mpr ⟨mb_Mod_isBed, List.forall_mem_cons.mpr ⟨mb_Mod_isBasket, List.forall_mem_cons.mpr ⟨mb_Mod_isHand, List.forall_mem_cons.mpr ⟨mb_Mod_isOrder, List.forall_mem_cons.mpr ⟨mb_Mod_feed, List.forall_mem_cons.mpr ⟨mb_Mod_end, List.forall_mem_cons.mpr ⟨mb_Mod_letter, List.forall_mem_cons.mpr ⟨mb_Mod_skip, List.forall_mem_cons.mpr ⟨mb_Mod_isSign, List.forall_mem_cons.mpr ⟨mb_Mod_has, List.forall_mem_cons.mpr ⟨mb_Mod_wrong, List.forall_mem_cons.mpr ⟨mb_Mod_here, List.forall_mem_cons.mpr ⟨mb_Mod_figures, List.forall_mem_cons.mpr ⟨mb_Mod_after, List.forall_mem_cons.mpr ⟨mb_Mod_expects, List.forall_mem_cons.mpr ⟨mb_Mod_sortWord, List.forall_mem_cons.mpr ⟨mb_Mod_bedLine, List.forall_mem_cons.mpr ⟨mb_Mod_isFigure, List.forall_mem_cons.mpr ⟨mb_Mod_basketLine, List.forall_mem_cons.mpr ⟨mb_Mod_rodsLine, List.forall_mem_cons.mpr ⟨mb_Mod_handLine, List.forall_mem_cons.mpr ⟨mb_Mod_hires, List.forall_mem_cons.mpr ⟨mb_Mod_orderLine, List.forall_mem_cons.mpr ⟨mb_Mod_takes, List.forall_mem_cons.mpr ⟨mb_Mod_tells, List.forall_mem_cons.mpr ⟨mb_Mod_holtLine, List.forall_mem_cons.mpr ⟨mb_Mod_begins, List.forall_mem_cons.mpr ⟨mb_Mod_read, List.forall_mem_cons.mpr ⟨mb_Mod_putsAside, List.forall_mem_cons.mpr ⟨mb_Mod_comesBack, List.forall_mem_cons.mpr ⟨mb_Mod_holt, List.forall_mem_cons.mpr ⟨mb_Mod_part, List.forall_mem_cons.mpr ⟨mb_Mod_sum, List.forall_mem_cons.mpr ⟨mb_Mod_plain, List.forall_mem_cons.mpr ⟨mb_Mod_atom, List.forall_mem_cons.mpr ⟨mb_Mod_every, List.forall_mem_cons.mpr ⟨mb_Mod_some, List.forall_mem_cons.mpr ⟨mb_Mod_lawLine, List.forall_mem_cons.mpr ⟨mb_Mod_law, List.forall_mem_cons.mpr ⟨mb_Mod_fault, fun _ h => nomatch h⟩⟩⟩⟩⟩⟩⟩⟩⟩⟩⟩⟩⟩⟩⟩⟩⟩⟩⟩⟩⟩⟩⟩⟩⟩⟩⟩⟩⟩⟩⟩⟩⟩⟩⟩⟩⟩⟩⟩⟩
theorem mj_mt_2_ok : ∀ q ∈ mj_mt_2, q.1 ≠ j_Lw_lawmain → mj_okM q.1 := List.forall_mem_cons.mpr ⟨fun h => mo_Mod_isBed, List.forall_mem_cons.mpr ⟨fun h => mo_Mod_isBasket, List.forall_mem_cons.mpr ⟨fun h => mo_Mod_isHand, List.forall_mem_cons.mpr ⟨fun h => mo_Mod_isOrder, List.forall_mem_cons.mpr ⟨fun h => mo_Mod_feed, List.forall_mem_cons.mpr ⟨fun h => mo_Mod_end, List.forall_mem_cons.mpr ⟨fun h => mo_Mod_letter, List.forall_mem_cons.mpr ⟨fun h => mo_Mod_skip, List.forall_mem_cons.mpr ⟨fun h => mo_Mod_isSign, List.forall_mem_cons.mpr ⟨fun h => mo_Mod_has, List.forall_mem_cons.mpr ⟨fun h => mo_Mod_wrong, List.forall_mem_cons.mpr ⟨fun h => mo_Mod_here, List.forall_mem_cons.mpr ⟨fun h => mo_Mod_figures, List.forall_mem_cons.mpr ⟨fun h => mo_Mod_after, List.forall_mem_cons.mpr ⟨fun h => mo_Mod_expects, List.forall_mem_cons.mpr ⟨fun h => mo_Mod_sortWord, List.forall_mem_cons.mpr ⟨fun h => mo_Mod_bedLine, List.forall_mem_cons.mpr ⟨fun h => mo_Mod_isFigure, List.forall_mem_cons.mpr ⟨fun h => mo_Mod_basketLine, List.forall_mem_cons.mpr ⟨fun h => mo_Mod_rodsLine, List.forall_mem_cons.mpr ⟨fun h => mo_Mod_handLine, List.forall_mem_cons.mpr ⟨fun h => mo_Mod_hires, List.forall_mem_cons.mpr ⟨fun h => mo_Mod_orderLine, List.forall_mem_cons.mpr ⟨fun h => mo_Mod_takes, List.forall_mem_cons.mpr ⟨fun h => mo_Mod_tells, List.forall_mem_cons.mpr ⟨fun h => mo_Mod_holtLine, List.forall_mem_cons.mpr ⟨fun h => mo_Mod_begins, List.forall_mem_cons.mpr ⟨fun h => mo_Mod_read, List.forall_mem_cons.mpr ⟨fun h => mo_Mod_putsAside, List.forall_mem_cons.mpr ⟨fun h => mo_Mod_comesBack, List.forall_mem_cons.mpr ⟨fun h => mo_Mod_holt, List.forall_mem_cons.mpr ⟨fun h => mo_Mod_part, List.forall_mem_cons.mpr ⟨fun h => mo_Mod_sum, List.forall_mem_cons.mpr ⟨fun h => mo_Mod_plain, List.forall_mem_cons.mpr ⟨fun h => mo_Mod_atom, List.forall_mem_cons.mpr ⟨fun h => mo_Mod_every, List.forall_mem_cons.mpr ⟨fun h => mo_Mod_some, List.forall_mem_cons.mpr ⟨fun h => mo_Mod_lawLine, List.forall_mem_cons.mpr ⟨fun h => mo_Mod_law, List.forall_mem_cons.mpr ⟨fun h => mo_Mod_fault, fun _ h => nomatch h⟩⟩⟩⟩⟩⟩⟩⟩⟩⟩⟩⟩⟩⟩⟩⟩⟩⟩⟩⟩⟩⟩⟩⟩⟩⟩⟩⟩⟩⟩⟩⟩⟩⟩⟩⟩⟩⟩⟩⟩
theorem mj_bls_3_ok : ∀ q ∈ mj_bls_3, mj_okB q := List.forall_mem_cons.mpr ⟨mb_Mod_asks, List.forall_mem_cons.mpr ⟨mb_Mod_reachOf, List.forall_mem_cons.mpr ⟨mb_Mod_yieldOf, List.forall_mem_cons.mpr ⟨mb_Mod_period, List.forall_mem_cons.mpr ⟨mb_Mod_isOver, List.forall_mem_cons.mpr ⟨mb_Mod_comesAgain, List.forall_mem_cons.mpr ⟨mb_Mod_againOf, List.forall_mem_cons.mpr ⟨mb_Mod_needOf, List.forall_mem_cons.mpr ⟨mb_Mod_rodsOf, List.forall_mem_cons.mpr ⟨mb_Mod_feetOf, List.forall_mem_cons.mpr ⟨mb_Mod_paysOf, List.forall_mem_cons.mpr ⟨mb_Mod_hasRods, List.forall_mem_cons.mpr ⟨mb_Mod_draw, List.forall_mem_cons.mpr ⟨mb_Mod_logs, List.forall_mem_cons.mpr ⟨mb_Mod_makes, List.forall_mem_cons.mpr ⟨mb_Mod_ages, List.forall_mem_cons.mpr ⟨mb_Mod_passes, List.forall_mem_cons.mpr ⟨mb_Mod_goes, List.forall_mem_cons.mpr ⟨mb_Mod_stoolsOfAll, List.forall_mem_cons.mpr ⟨mb_Mod_openOnes, List.forall_mem_cons.mpr ⟨mb_Mod_bed, List.forall_mem_cons.mpr ⟨mb_Mod_looseBy, List.forall_mem_cons.mpr ⟨mb_Mod_loose, List.forall_mem_cons.mpr ⟨mb_Mod_floatOf, List.forall_mem_cons.mpr ⟨mb_Mod_isSame, List.forall_mem_cons.mpr ⟨mb_Mod_dropOf, List.forall_mem_cons.mpr ⟨mb_Mod_blindOf, List.forall_mem_cons.mpr ⟨mb_Mod_fitOf, List.forall_mem_cons.mpr ⟨mb_Mod_changeOf, List.forall_mem_cons.mpr ⟨mb_Mod_nearest, List.forall_mem_cons.mpr ⟨mb_Mod_basket, List.forall_mem_cons.mpr ⟨mb_Mod_run, List.forall_mem_cons.mpr ⟨mb_Mod_over, List.forall_mem_cons.mpr ⟨mb_Mod_sound, List.forall_mem_cons.mpr ⟨mb_Mod_store, List.forall_mem_cons.mpr ⟨mb_Mod_hand, List.forall_mem_cons.mpr ⟨mb_Mod_order, List.forall_mem_cons.mpr ⟨mb_Mod_remembers, List.forall_mem_cons.mpr ⟨mb_Mod_sets, List.forall_mem_cons.mpr ⟨mb_Mod_years, fun _ h => nomatch h⟩⟩⟩⟩⟩⟩⟩⟩⟩⟩⟩⟩⟩⟩⟩⟩⟩⟩⟩⟩⟩⟩⟩⟩⟩⟩⟩⟩⟩⟩⟩⟩⟩⟩⟩⟩⟩⟩⟩⟩
theorem mj_mt_3_ok : ∀ q ∈ mj_mt_3, q.1 ≠ j_Lw_lawmain → mj_okM q.1 := List.forall_mem_cons.mpr ⟨fun h => mo_Mod_asks, List.forall_mem_cons.mpr ⟨fun h => mo_Mod_reachOf, List.forall_mem_cons.mpr ⟨fun h => mo_Mod_yieldOf, List.forall_mem_cons.mpr ⟨fun h => mo_Mod_period, List.forall_mem_cons.mpr ⟨fun h => mo_Mod_isOver, List.forall_mem_cons.mpr ⟨fun h => mo_Mod_comesAgain, List.forall_mem_cons.mpr ⟨fun h => mo_Mod_againOf, List.forall_mem_cons.mpr ⟨fun h => mo_Mod_needOf, List.forall_mem_cons.mpr ⟨fun h => mo_Mod_rodsOf, List.forall_mem_cons.mpr ⟨fun h => mo_Mod_feetOf, List.forall_mem_cons.mpr ⟨fun h => mo_Mod_paysOf, List.forall_mem_cons.mpr ⟨fun h => mo_Mod_hasRods, List.forall_mem_cons.mpr ⟨fun h => mo_Mod_draw, List.forall_mem_cons.mpr ⟨fun h => mo_Mod_logs, List.forall_mem_cons.mpr ⟨fun h => mo_Mod_makes, List.forall_mem_cons.mpr ⟨fun h => mo_Mod_ages, List.forall_mem_cons.mpr ⟨fun h => mo_Mod_passes, List.forall_mem_cons.mpr ⟨fun h => mo_Mod_goes, List.forall_mem_cons.mpr ⟨fun h => mo_Mod_stoolsOfAll, List.forall_mem_cons.mpr ⟨fun h => mo_Mod_openOnes, List.forall_mem_cons.mpr ⟨fun h => mo_Mod_bed, List.forall_mem_cons.mpr ⟨fun h => mo_Mod_looseBy, List.forall_mem_cons.mpr ⟨fun h => mo_Mod_loose, List.forall_mem_cons.mpr ⟨fun h => mo_Mod_floatOf, List.forall_mem_cons.mpr ⟨fun h => mo_Mod_isSame, List.forall_mem_cons.mpr ⟨fun h => mo_Mod_dropOf, List.forall_mem_cons.mpr ⟨fun h => mo_Mod_blindOf, List.forall_mem_cons.mpr ⟨fun h => mo_Mod_fitOf, List.forall_mem_cons.mpr ⟨fun h => mo_Mod_changeOf, List.forall_mem_cons.mpr ⟨fun h => mo_Mod_nearest, List.forall_mem_cons.mpr ⟨fun h => mo_Mod_basket, List.forall_mem_cons.mpr ⟨fun h => mo_Mod_run, List.forall_mem_cons.mpr ⟨fun h => mo_Mod_over, List.forall_mem_cons.mpr ⟨fun h => mo_Mod_sound, List.forall_mem_cons.mpr ⟨fun h => mo_Mod_store, List.forall_mem_cons.mpr ⟨fun h => mo_Mod_hand, List.forall_mem_cons.mpr ⟨fun h => mo_Mod_order, List.forall_mem_cons.mpr ⟨fun h => mo_Mod_remembers, List.forall_mem_cons.mpr ⟨fun h => mo_Mod_sets, List.forall_mem_cons.mpr ⟨fun h => mo_Mod_years, fun _ h => nomatch h⟩⟩⟩⟩⟩⟩⟩⟩⟩⟩⟩⟩⟩⟩⟩⟩⟩⟩⟩⟩⟩⟩⟩⟩⟩⟩⟩⟩⟩⟩⟩⟩⟩⟩⟩⟩⟩⟩⟩⟩
theorem mj_bls_4_ok : ∀ q ∈ mj_bls_4, mj_okB q := List.forall_mem_cons.mpr ⟨mb_Mod_cut, List.forall_mem_cons.mpr ⟨mb_Mod_buy, List.forall_mem_cons.mpr ⟨mb_Mod_sell, List.forall_mem_cons.mpr ⟨mb_Mod_take, List.forall_mem_cons.mpr ⟨mb_Mod_drop, List.forall_mem_cons.mpr ⟨mb_Mod_drain, List.forall_mem_cons.mpr ⟨mb_Mod_hire, List.forall_mem_cons.mpr ⟨mb_Mod_teach, List.forall_mem_cons.mpr ⟨mb_Mod_make, List.forall_mem_cons.mpr ⟨mb_Mod_gainBy, List.forall_mem_cons.mpr ⟨mb_Mod_cutsOf, List.forall_mem_cons.mpr ⟨mb_Mod_gain, List.forall_mem_cons.mpr ⟨mb_Mod_cuts, List.forall_mem_cons.mpr ⟨mb_Mod_filled, List.forall_mem_cons.mpr ⟨mb_Mod_mostFilled, List.forall_mem_cons.mpr ⟨mb_Mod_worth, List.forall_mem_cons.mpr ⟨mb_Mod_fills, List.forall_mem_cons.mpr ⟨mb_Mod_packs, List.forall_mem_cons.mpr ⟨mb_Mod_rodsFor, List.forall_mem_cons.mpr ⟨mb_Mod_pieceMany, List.forall_mem_cons.mpr ⟨mb_Mod_pieces, List.forall_mem_cons.mpr ⟨mb_Mod_rod, List.forall_mem_cons.mpr ⟨mb_Mod_isWeave, List.forall_mem_cons.mpr ⟨mb_Mod_isPassed, List.forall_mem_cons.mpr ⟨mb_Mod_sees, List.forall_mem_cons.mpr ⟨mb_Mod_seenMany, List.forall_mem_cons.mpr ⟨mb_Mod_found, List.forall_mem_cons.mpr ⟨mb_Mod_look, List.forall_mem_cons.mpr ⟨mb_Mod_worksBy, List.forall_mem_cons.mpr ⟨mb_Mod_allTeams, List.forall_mem_cons.mpr ⟨mb_Mod_team, List.forall_mem_cons.mpr ⟨mb_Mod_lowest, List.forall_mem_cons.mpr ⟨mb_Mod_both, List.forall_mem_cons.mpr ⟨mb_Mod_allBest, List.forall_mem_cons.mpr ⟨mb_Mod_pairs, List.forall_mem_cons.mpr ⟨mb_Mod_change, List.forall_mem_cons.mpr ⟨mb_Mod_share, List.forall_mem_cons.mpr ⟨mb_Mod_earned, List.forall_mem_cons.mpr ⟨mb_Mod_price, List.forall_mem_cons.mpr ⟨mb_Mod_heHas, fun _ h => nomatch h⟩⟩⟩⟩⟩⟩⟩⟩⟩⟩⟩⟩⟩⟩⟩⟩⟩⟩⟩⟩⟩⟩⟩⟩⟩⟩⟩⟩⟩⟩⟩⟩⟩⟩⟩⟩⟩⟩⟩⟩
theorem mj_mt_4_ok : ∀ q ∈ mj_mt_4, q.1 ≠ j_Lw_lawmain → mj_okM q.1 := List.forall_mem_cons.mpr ⟨fun h => mo_Mod_cut, List.forall_mem_cons.mpr ⟨fun h => mo_Mod_buy, List.forall_mem_cons.mpr ⟨fun h => mo_Mod_sell, List.forall_mem_cons.mpr ⟨fun h => mo_Mod_take, List.forall_mem_cons.mpr ⟨fun h => mo_Mod_drop, List.forall_mem_cons.mpr ⟨fun h => mo_Mod_drain, List.forall_mem_cons.mpr ⟨fun h => mo_Mod_hire, List.forall_mem_cons.mpr ⟨fun h => mo_Mod_teach, List.forall_mem_cons.mpr ⟨fun h => mo_Mod_make, List.forall_mem_cons.mpr ⟨fun h => mo_Mod_gainBy, List.forall_mem_cons.mpr ⟨fun h => mo_Mod_cutsOf, List.forall_mem_cons.mpr ⟨fun h => mo_Mod_gain, List.forall_mem_cons.mpr ⟨fun h => mo_Mod_cuts, List.forall_mem_cons.mpr ⟨fun h => mo_Mod_filled, List.forall_mem_cons.mpr ⟨fun h => mo_Mod_mostFilled, List.forall_mem_cons.mpr ⟨fun h => mo_Mod_worth, List.forall_mem_cons.mpr ⟨fun h => mo_Mod_fills, List.forall_mem_cons.mpr ⟨fun h => mo_Mod_packs, List.forall_mem_cons.mpr ⟨fun h => mo_Mod_rodsFor, List.forall_mem_cons.mpr ⟨fun h => mo_Mod_pieceMany, List.forall_mem_cons.mpr ⟨fun h => mo_Mod_pieces, List.forall_mem_cons.mpr ⟨fun h => mo_Mod_rod, List.forall_mem_cons.mpr ⟨fun h => mo_Mod_isWeave, List.forall_mem_cons.mpr ⟨fun h => mo_Mod_isPassed, List.forall_mem_cons.mpr ⟨fun h => mo_Mod_sees, List.forall_mem_cons.mpr ⟨fun h => mo_Mod_seenMany, List.forall_mem_cons.mpr ⟨fun h => mo_Mod_found, List.forall_mem_cons.mpr ⟨fun h => mo_Mod_look, List.forall_mem_cons.mpr ⟨fun h => mo_Mod_worksBy, List.forall_mem_cons.mpr ⟨fun h => mo_Mod_allTeams, List.forall_mem_cons.mpr ⟨fun h => mo_Mod_team, List.forall_mem_cons.mpr ⟨fun h => mo_Mod_lowest, List.forall_mem_cons.mpr ⟨fun h => mo_Mod_both, List.forall_mem_cons.mpr ⟨fun h => mo_Mod_allBest, List.forall_mem_cons.mpr ⟨fun h => mo_Mod_pairs, List.forall_mem_cons.mpr ⟨fun h => mo_Mod_change, List.forall_mem_cons.mpr ⟨fun h => mo_Mod_share, List.forall_mem_cons.mpr ⟨fun h => mo_Mod_earned, List.forall_mem_cons.mpr ⟨fun h => mo_Mod_price, List.forall_mem_cons.mpr ⟨fun h => mo_Mod_heHas, fun _ h => nomatch h⟩⟩⟩⟩⟩⟩⟩⟩⟩⟩⟩⟩⟩⟩⟩⟩⟩⟩⟩⟩⟩⟩⟩⟩⟩⟩⟩⟩⟩⟩⟩⟩⟩⟩⟩⟩⟩⟩⟩⟩
theorem mj_bls_5_ok : ∀ q ∈ mj_bls_5, mj_okB q := List.forall_mem_cons.mpr ⟨mb_Mod_riverHas, List.forall_mem_cons.mpr ⟨mb_Mod_rests, List.forall_mem_cons.mpr ⟨mb_Mod_odds, List.forall_mem_cons.mpr ⟨mb_Mod_valueOf, List.forall_mem_cons.mpr ⟨mb_Mod_most, List.forall_mem_cons.mpr ⟨mb_Mod_open, List.forall_mem_cons.mpr ⟨mb_Mod_twins, List.forall_mem_cons.mpr ⟨mb_Mod_sort, List.forall_mem_cons.mpr ⟨mb_Mod_lengths, List.forall_mem_cons.mpr ⟨mb_Mod_ahead, List.forall_mem_cons.mpr ⟨mb_Mod_trial, List.forall_mem_cons.mpr ⟨mb_Mod_span, List.forall_mem_cons.mpr ⟨mb_Mod_logged, List.forall_mem_cons.mpr ⟨mb_Mod_led, List.forall_mem_cons.mpr ⟨mb_Mod_log, List.forall_mem_cons.mpr ⟨mb_Mod_seed, List.forall_mem_cons.mpr ⟨mb_Mod_undo, List.forall_mem_cons.mpr ⟨mb_Mod_image, List.forall_mem_cons.mpr ⟨mb_Mod_back, List.forall_mem_cons.mpr ⟨mb_Mod_count, List.forall_mem_cons.mpr ⟨mb_Baskets_init, List.forall_mem_cons.mpr ⟨mb_Baskets_copy, List.forall_mem_cons.mpr ⟨mb_Baskets_beginWeave, List.forall_mem_cons.mpr ⟨mb_Baskets_addRun, List.forall_mem_cons.mpr ⟨mb_Baskets_runOf, List.forall_mem_cons.mpr ⟨mb_Baskets_passesOver, List.forall_mem_cons.mpr ⟨mb_Baskets_needOf, List.forall_mem_cons.mpr ⟨mb_Baskets_againOf, List.forall_mem_cons.mpr ⟨mb_Baskets_isAlikeAfter, List.forall_mem_cons.mpr ⟨mb_Baskets_looseOf, List.forall_mem_cons.mpr ⟨mb_Baskets_floatOf, List.forall_mem_cons.mpr ⟨mb_Baskets_dropOf, List.forall_mem_cons.mpr ⟨mb_Baskets_longestAlike, List.forall_mem_cons.mpr ⟨mb_Baskets_blindOf, List.forall_mem_cons.mpr ⟨mb_Baskets_isBlind, List.forall_mem_cons.mpr ⟨mb_Baskets_fitOf, List.forall_mem_cons.mpr ⟨mb_Baskets_bestPrice, List.forall_mem_cons.mpr ⟨mb_Baskets_buyersAt, List.forall_mem_cons.mpr ⟨mb_Beds_init, List.forall_mem_cons.mpr ⟨mb_Beds_copy, fun _ h => nomatch h⟩⟩⟩⟩⟩⟩⟩⟩⟩⟩⟩⟩⟩⟩⟩⟩⟩⟩⟩⟩⟩⟩⟩⟩⟩⟩⟩⟩⟩⟩⟩⟩⟩⟩⟩⟩⟩⟩⟩⟩
theorem mj_mt_5_ok : ∀ q ∈ mj_mt_5, q.1 ≠ j_Lw_lawmain → mj_okM q.1 := List.forall_mem_cons.mpr ⟨fun h => mo_Mod_riverHas, List.forall_mem_cons.mpr ⟨fun h => mo_Mod_rests, List.forall_mem_cons.mpr ⟨fun h => mo_Mod_odds, List.forall_mem_cons.mpr ⟨fun h => mo_Mod_valueOf, List.forall_mem_cons.mpr ⟨fun h => mo_Mod_most, List.forall_mem_cons.mpr ⟨fun h => mo_Mod_open, List.forall_mem_cons.mpr ⟨fun h => mo_Mod_twins, List.forall_mem_cons.mpr ⟨fun h => mo_Mod_sort, List.forall_mem_cons.mpr ⟨fun h => mo_Mod_lengths, List.forall_mem_cons.mpr ⟨fun h => mo_Mod_ahead, List.forall_mem_cons.mpr ⟨fun h => mo_Mod_trial, List.forall_mem_cons.mpr ⟨fun h => mo_Mod_span, List.forall_mem_cons.mpr ⟨fun h => mo_Mod_logged, List.forall_mem_cons.mpr ⟨fun h => mo_Mod_led, List.forall_mem_cons.mpr ⟨fun h => mo_Mod_log, List.forall_mem_cons.mpr ⟨fun h => mo_Mod_seed, List.forall_mem_cons.mpr ⟨fun h => mo_Mod_undo, List.forall_mem_cons.mpr ⟨fun h => mo_Mod_image, List.forall_mem_cons.mpr ⟨fun h => mo_Mod_back, List.forall_mem_cons.mpr ⟨fun h => mo_Mod_count, List.forall_mem_cons.mpr ⟨fun h => mo_Baskets_init, List.forall_mem_cons.mpr ⟨fun h => mo_Baskets_copy, List.forall_mem_cons.mpr ⟨fun h => mo_Baskets_beginWeave, List.forall_mem_cons.mpr ⟨fun h => mo_Baskets_addRun, List.forall_mem_cons.mpr ⟨fun h => mo_Baskets_runOf, List.forall_mem_cons.mpr ⟨fun h => mo_Baskets_passesOver, List.forall_mem_cons.mpr ⟨fun h => mo_Baskets_needOf, List.forall_mem_cons.mpr ⟨fun h => mo_Baskets_againOf, List.forall_mem_cons.mpr ⟨fun h => mo_Baskets_isAlikeAfter, List.forall_mem_cons.mpr ⟨fun h => mo_Baskets_looseOf, List.forall_mem_cons.mpr ⟨fun h => mo_Baskets_floatOf, List.forall_mem_cons.mpr ⟨fun h => mo_Baskets_dropOf, List.forall_mem_cons.mpr ⟨fun h => mo_Baskets_longestAlike, List.forall_mem_cons.mpr ⟨fun h => mo_Baskets_blindOf, List.forall_mem_cons.mpr ⟨fun h => mo_Baskets_isBlind, List.forall_mem_cons.mpr ⟨fun h => mo_Baskets_fitOf, List.forall_mem_cons.mpr ⟨fun h => mo_Baskets_bestPrice, List.forall_mem_cons.mpr ⟨fun h => mo_Baskets_buyersAt, List.forall_mem_cons.mpr ⟨fun h => mo_Beds_init, List.forall_mem_cons.mpr ⟨fun h => mo_Beds_copy, fun _ h => nomatch h⟩⟩⟩⟩⟩⟩⟩⟩⟩⟩⟩⟩⟩⟩⟩⟩⟩⟩⟩⟩⟩⟩⟩⟩⟩⟩⟩⟩⟩⟩⟩⟩⟩⟩⟩⟩⟩⟩⟩⟩
theorem mj_bls_6_ok : ∀ q ∈ mj_bls_6, mj_okB q := List.forall_mem_cons.mpr ⟨mb_Beds_add, List.forall_mem_cons.mpr ⟨mb_Beds_grow, List.forall_mem_cons.mpr ⟨mb_Beds_stoolsAhead, List.forall_mem_cons.mpr ⟨mb_Beds_partOf, List.forall_mem_cons.mpr ⟨mb_Beds_feetCut, List.forall_mem_cons.mpr ⟨mb_Beds_bestCuts, List.forall_mem_cons.mpr ⟨mb_Beds_twinPairs, List.forall_mem_cons.mpr ⟨mb_Beds_ofSort, List.forall_mem_cons.mpr ⟨mb_Hands_init, List.forall_mem_cons.mpr ⟨mb_Hands_copy, List.forall_mem_cons.mpr ⟨mb_Hands_add, List.forall_mem_cons.mpr ⟨mb_Holt_init, List.forall_mem_cons.mpr ⟨mb_Holt_copy, List.forall_mem_cons.mpr ⟨mb_Holt_earn, List.forall_mem_cons.mpr ⟨mb_Holt_passYears, List.forall_mem_cons.mpr ⟨mb_Holt_passYear, List.forall_mem_cons.mpr ⟨mb_Holt_draw, List.forall_mem_cons.mpr ⟨mb_Holt_payHands, List.forall_mem_cons.mpr ⟨mb_Holt_makeOrders, List.forall_mem_cons.mpr ⟨mb_Holt_rodsFor, List.forall_mem_cons.mpr ⟨mb_Holt_feetFor, List.forall_mem_cons.mpr ⟨mb_Holt_payFor, List.forall_mem_cons.mpr ⟨mb_Holt_canMake, List.forall_mem_cons.mpr ⟨mb_Holt_makeUp, List.forall_mem_cons.mpr ⟨mb_Holt_canMakeBits, List.forall_mem_cons.mpr ⟨mb_Holt_bestFills, List.forall_mem_cons.mpr ⟨mb_Holt_payOf, List.forall_mem_cons.mpr ⟨mb_Holt_canFill, List.forall_mem_cons.mpr ⟨mb_HoltText_read, List.forall_mem_cons.mpr ⟨mb_HoltText_readLine, List.forall_mem_cons.mpr ⟨mb_HoltText_readBed, List.forall_mem_cons.mpr ⟨mb_HoltText_readSort, List.forall_mem_cons.mpr ⟨mb_HoltText_readBasket, List.forall_mem_cons.mpr ⟨mb_HoltText_readHand, List.forall_mem_cons.mpr ⟨mb_HoltText_readOrder, List.forall_mem_cons.mpr ⟨mb_Law_init, List.forall_mem_cons.mpr ⟨mb_Law_clear, List.forall_mem_cons.mpr ⟨mb_Law_copy, List.forall_mem_cons.mpr ⟨mb_Law_emit, List.forall_mem_cons.mpr ⟨mb_Law_endLine, fun _ h => nomatch h⟩⟩⟩⟩⟩⟩⟩⟩⟩⟩⟩⟩⟩⟩⟩⟩⟩⟩⟩⟩⟩⟩⟩⟩⟩⟩⟩⟩⟩⟩⟩⟩⟩⟩⟩⟩⟩⟩⟩⟩
theorem mj_mt_6_ok : ∀ q ∈ mj_mt_6, q.1 ≠ j_Lw_lawmain → mj_okM q.1 := List.forall_mem_cons.mpr ⟨fun h => mo_Beds_add, List.forall_mem_cons.mpr ⟨fun h => mo_Beds_grow, List.forall_mem_cons.mpr ⟨fun h => mo_Beds_stoolsAhead, List.forall_mem_cons.mpr ⟨fun h => mo_Beds_partOf, List.forall_mem_cons.mpr ⟨fun h => mo_Beds_feetCut, List.forall_mem_cons.mpr ⟨fun h => mo_Beds_bestCuts, List.forall_mem_cons.mpr ⟨fun h => mo_Beds_twinPairs, List.forall_mem_cons.mpr ⟨fun h => mo_Beds_ofSort, List.forall_mem_cons.mpr ⟨fun h => mo_Hands_init, List.forall_mem_cons.mpr ⟨fun h => mo_Hands_copy, List.forall_mem_cons.mpr ⟨fun h => mo_Hands_add, List.forall_mem_cons.mpr ⟨fun h => mo_Holt_init, List.forall_mem_cons.mpr ⟨fun h => mo_Holt_copy, List.forall_mem_cons.mpr ⟨fun h => mo_Holt_earn, List.forall_mem_cons.mpr ⟨fun h => mo_Holt_passYears, List.forall_mem_cons.mpr ⟨fun h => mo_Holt_passYear, List.forall_mem_cons.mpr ⟨fun h => mo_Holt_draw, List.forall_mem_cons.mpr ⟨fun h => mo_Holt_payHands, List.forall_mem_cons.mpr ⟨fun h => mo_Holt_makeOrders, List.forall_mem_cons.mpr ⟨fun h => mo_Holt_rodsFor, List.forall_mem_cons.mpr ⟨fun h => mo_Holt_feetFor, List.forall_mem_cons.mpr ⟨fun h => mo_Holt_payFor, List.forall_mem_cons.mpr ⟨fun h => mo_Holt_canMake, List.forall_mem_cons.mpr ⟨fun h => mo_Holt_makeUp, List.forall_mem_cons.mpr ⟨fun h => mo_Holt_canMakeBits, List.forall_mem_cons.mpr ⟨fun h => mo_Holt_bestFills, List.forall_mem_cons.mpr ⟨fun h => mo_Holt_payOf, List.forall_mem_cons.mpr ⟨fun h => mo_Holt_canFill, List.forall_mem_cons.mpr ⟨fun h => mo_HoltText_read, List.forall_mem_cons.mpr ⟨fun h => mo_HoltText_readLine, List.forall_mem_cons.mpr ⟨fun h => mo_HoltText_readBed, List.forall_mem_cons.mpr ⟨fun h => mo_HoltText_readSort, List.forall_mem_cons.mpr ⟨fun h => mo_HoltText_readBasket, List.forall_mem_cons.mpr ⟨fun h => mo_HoltText_readHand, List.forall_mem_cons.mpr ⟨fun h => mo_HoltText_readOrder, List.forall_mem_cons.mpr ⟨fun h => mo_Law_init, List.forall_mem_cons.mpr ⟨fun h => mo_Law_clear, List.forall_mem_cons.mpr ⟨fun h => mo_Law_copy, List.forall_mem_cons.mpr ⟨fun h => mo_Law_emit, List.forall_mem_cons.mpr ⟨fun h => mo_Law_endLine, fun _ h => nomatch h⟩⟩⟩⟩⟩⟩⟩⟩⟩⟩⟩⟩⟩⟩⟩⟩⟩⟩⟩⟩⟩⟩⟩⟩⟩⟩⟩⟩⟩⟩⟩⟩⟩⟩⟩⟩⟩⟩⟩⟩
theorem mj_bls_7_ok : ∀ q ∈ mj_bls_7, mj_okB q := List.forall_mem_cons.mpr ⟨mb_Law_reachOf, List.forall_mem_cons.mpr ⟨mb_Law_yieldOf, List.forall_mem_cons.mpr ⟨mb_Law_costOf, List.forall_mem_cons.mpr ⟨mb_Law_sumOf, List.forall_mem_cons.mpr ⟨mb_Law_holds, List.forall_mem_cons.mpr ⟨mb_Law_reckon, List.forall_mem_cons.mpr ⟨mb_Law_valueOf, List.forall_mem_cons.mpr ⟨mb_Law_joined, List.forall_mem_cons.mpr ⟨mb_LawText_read, List.forall_mem_cons.mpr ⟨mb_LawText_readKind, List.forall_mem_cons.mpr ⟨mb_LawText_readAny, List.forall_mem_cons.mpr ⟨mb_LawText_readAll, List.forall_mem_cons.mpr ⟨mb_LawText_readAtom, List.forall_mem_cons.mpr ⟨mb_LawText_readComparison, List.forall_mem_cons.mpr ⟨mb_LawText_readSum, List.forall_mem_cons.mpr ⟨mb_LawText_readPart, List.forall_mem_cons.mpr ⟨mb_Log_init, List.forall_mem_cons.mpr ⟨mb_Log_copy, List.forall_mem_cons.mpr ⟨mb_Log_add, List.forall_mem_cons.mpr ⟨mb_Log_cellOf, List.forall_mem_cons.mpr ⟨mb_Log_isCut, List.forall_mem_cons.mpr ⟨mb_Log_cutsOf, List.forall_mem_cons.mpr ⟨mb_Log_latestCut, List.forall_mem_cons.mpr ⟨mb_Orders_init, List.forall_mem_cons.mpr ⟨mb_Orders_copy, List.forall_mem_cons.mpr ⟨mb_Orders_add, List.forall_mem_cons.mpr ⟨mb_Orders_isOpen, List.forall_mem_cons.mpr ⟨mb_Orders_shut, List.forall_mem_cons.mpr ⟨mb_Tape_init, List.forall_mem_cons.mpr ⟨mb_Tape_push, List.forall_mem_cons.mpr ⟨mb_Tape_start, List.forall_mem_cons.mpr ⟨mb_Tape_failed, List.forall_mem_cons.mpr ⟨mb_Tape_fail, List.forall_mem_cons.mpr ⟨mb_Tape_lineComes, List.forall_mem_cons.mpr ⟨mb_Tape_isSign, List.forall_mem_cons.mpr ⟨mb_Tape_takeSign, List.forall_mem_cons.mpr ⟨mb_Tape_isWord, List.forall_mem_cons.mpr ⟨mb_Tape_takeWord, List.forall_mem_cons.mpr ⟨mb_Tape_needWord, List.forall_mem_cons.mpr ⟨mb_Tape_isNumber, fun _ h => nomatch h⟩⟩⟩⟩⟩⟩⟩⟩⟩⟩⟩⟩⟩⟩⟩⟩⟩⟩⟩⟩⟩⟩⟩⟩⟩⟩⟩⟩⟩⟩⟩⟩⟩⟩⟩⟩⟩⟩⟩⟩
theorem mj_mt_7_ok : ∀ q ∈ mj_mt_7, q.1 ≠ j_Lw_lawmain → mj_okM q.1 := List.forall_mem_cons.mpr ⟨fun h => mo_Law_reachOf, List.forall_mem_cons.mpr ⟨fun h => mo_Law_yieldOf, List.forall_mem_cons.mpr ⟨fun h => mo_Law_costOf, List.forall_mem_cons.mpr ⟨fun h => mo_Law_sumOf, List.forall_mem_cons.mpr ⟨fun h => mo_Law_holds, List.forall_mem_cons.mpr ⟨fun h => mo_Law_reckon, List.forall_mem_cons.mpr ⟨fun h => mo_Law_valueOf, List.forall_mem_cons.mpr ⟨fun h => mo_Law_joined, List.forall_mem_cons.mpr ⟨fun h => mo_LawText_read, List.forall_mem_cons.mpr ⟨fun h => mo_LawText_readKind, List.forall_mem_cons.mpr ⟨fun h => mo_LawText_readAny, List.forall_mem_cons.mpr ⟨fun h => mo_LawText_readAll, List.forall_mem_cons.mpr ⟨fun h => mo_LawText_readAtom, List.forall_mem_cons.mpr ⟨fun h => mo_LawText_readComparison, List.forall_mem_cons.mpr ⟨fun h => mo_LawText_readSum, List.forall_mem_cons.mpr ⟨fun h => mo_LawText_readPart, List.forall_mem_cons.mpr ⟨fun h => mo_Log_init, List.forall_mem_cons.mpr ⟨fun h => mo_Log_copy, List.forall_mem_cons.mpr ⟨fun h => mo_Log_add, List.forall_mem_cons.mpr ⟨fun h => mo_Log_cellOf, List.forall_mem_cons.mpr ⟨fun h => mo_Log_isCut, List.forall_mem_cons.mpr ⟨fun h => mo_Log_cutsOf, List.forall_mem_cons.mpr ⟨fun h => mo_Log_latestCut, List.forall_mem_cons.mpr ⟨fun h => mo_Orders_init, List.forall_mem_cons.mpr ⟨fun h => mo_Orders_copy, List.forall_mem_cons.mpr ⟨fun h => mo_Orders_add, List.forall_mem_cons.mpr ⟨fun h => mo_Orders_isOpen, List.forall_mem_cons.mpr ⟨fun h => mo_Orders_shut, List.forall_mem_cons.mpr ⟨fun h => mo_Tape_init, List.forall_mem_cons.mpr ⟨fun h => mo_Tape_push, List.forall_mem_cons.mpr ⟨fun h => mo_Tape_start, List.forall_mem_cons.mpr ⟨fun h => mo_Tape_failed, List.forall_mem_cons.mpr ⟨fun h => mo_Tape_fail, List.forall_mem_cons.mpr ⟨fun h => mo_Tape_lineComes, List.forall_mem_cons.mpr ⟨fun h => mo_Tape_isSign, List.forall_mem_cons.mpr ⟨fun h => mo_Tape_takeSign, List.forall_mem_cons.mpr ⟨fun h => mo_Tape_isWord, List.forall_mem_cons.mpr ⟨fun h => mo_Tape_takeWord, List.forall_mem_cons.mpr ⟨fun h => mo_Tape_needWord, List.forall_mem_cons.mpr ⟨fun h => mo_Tape_isNumber, fun _ h => nomatch h⟩⟩⟩⟩⟩⟩⟩⟩⟩⟩⟩⟩⟩⟩⟩⟩⟩⟩⟩⟩⟩⟩⟩⟩⟩⟩⟩⟩⟩⟩⟩⟩⟩⟩⟩⟩⟩⟩⟩⟩
theorem mj_bls_8_ok : ∀ q ∈ mj_bls_8, mj_okB q := List.forall_mem_cons.mpr ⟨mb_Tape_takeNumber, List.forall_mem_cons.mpr ⟨mb_Tape_isDigit, List.forall_mem_cons.mpr ⟨mb_Tape_moveTo, List.forall_mem_cons.mpr ⟨mb_Ways_init, List.forall_mem_cons.mpr ⟨mb_Ways_takePieces, List.forall_mem_cons.mpr ⟨mb_Ways_takeSeen, List.forall_mem_cons.mpr ⟨mb_Ways_takeTelling, List.forall_mem_cons.mpr ⟨mb_Ways_beginTrying, List.forall_mem_cons.mpr ⟨mb_Ways_keepTried, List.forall_mem_cons.mpr ⟨mb_Ways_fewestRods, List.forall_mem_cons.mpr ⟨mb_Ways_tryRods, List.forall_mem_cons.mpr ⟨mb_Ways_bestTeam, List.forall_mem_cons.mpr ⟨mb_Ways_tryTeam, List.forall_mem_cons.mpr ⟨mb_Ways_bestPairs, List.forall_mem_cons.mpr ⟨mb_Ways_tryPairs, List.forall_mem_cons.mpr ⟨mb_Ways_findWeaves, List.forall_mem_cons.mpr ⟨mb_Ways_keepIfSeen, List.forall_mem_cons.mpr ⟨mb_Ways_isOver, List.forall_mem_cons.mpr ⟨mb_Ways_placeToLook, List.forall_mem_cons.mpr ⟨mb_Ways_greaterPart, List.forall_mem_cons.mpr ⟨mb_Ways_steps, List.forall_mem_cons.mpr ⟨mb_Ways_nearest, List.forall_mem_cons.mpr ⟨mb_Ways_giveBundles, List.forall_mem_cons.mpr ⟨mb_Ways_nextToGive, List.forall_mem_cons.mpr ⟨mb_Lw_holt, List.forall_mem_cons.mpr ⟨mb_Lw_law, List.forall_mem_cons.mpr ⟨mb_Lw_bed, List.forall_mem_cons.mpr ⟨mb_Lw_basket, List.forall_mem_cons.mpr ⟨mb_Lw_run, List.forall_mem_cons.mpr ⟨mb_Lw_over, List.forall_mem_cons.mpr ⟨mb_Lw_sound, List.forall_mem_cons.mpr ⟨mb_Lw_store, List.forall_mem_cons.mpr ⟨mb_Lw_hand, List.forall_mem_cons.mpr ⟨mb_Lw_order, List.forall_mem_cons.mpr ⟨mb_Lw_years, List.forall_mem_cons.mpr ⟨mb_Lw_cut, List.forall_mem_cons.mpr ⟨mb_Lw_buy, List.forall_mem_cons.mpr ⟨mb_Lw_sell, List.forall_mem_cons.mpr ⟨mb_Lw_take, List.forall_mem_cons.mpr ⟨mb_Lw_drop, fun _ h => nomatch h⟩⟩⟩⟩⟩⟩⟩⟩⟩⟩⟩⟩⟩⟩⟩⟩⟩⟩⟩⟩⟩⟩⟩⟩⟩⟩⟩⟩⟩⟩⟩⟩⟩⟩⟩⟩⟩⟩⟩⟩
theorem mj_mt_8_ok : ∀ q ∈ mj_mt_8, q.1 ≠ j_Lw_lawmain → mj_okM q.1 := List.forall_mem_cons.mpr ⟨fun h => mo_Tape_takeNumber, List.forall_mem_cons.mpr ⟨fun h => mo_Tape_isDigit, List.forall_mem_cons.mpr ⟨fun h => mo_Tape_moveTo, List.forall_mem_cons.mpr ⟨fun h => mo_Ways_init, List.forall_mem_cons.mpr ⟨fun h => mo_Ways_takePieces, List.forall_mem_cons.mpr ⟨fun h => mo_Ways_takeSeen, List.forall_mem_cons.mpr ⟨fun h => mo_Ways_takeTelling, List.forall_mem_cons.mpr ⟨fun h => mo_Ways_beginTrying, List.forall_mem_cons.mpr ⟨fun h => mo_Ways_keepTried, List.forall_mem_cons.mpr ⟨fun h => mo_Ways_fewestRods, List.forall_mem_cons.mpr ⟨fun h => mo_Ways_tryRods, List.forall_mem_cons.mpr ⟨fun h => mo_Ways_bestTeam, List.forall_mem_cons.mpr ⟨fun h => mo_Ways_tryTeam, List.forall_mem_cons.mpr ⟨fun h => mo_Ways_bestPairs, List.forall_mem_cons.mpr ⟨fun h => mo_Ways_tryPairs, List.forall_mem_cons.mpr ⟨fun h => mo_Ways_findWeaves, List.forall_mem_cons.mpr ⟨fun h => mo_Ways_keepIfSeen, List.forall_mem_cons.mpr ⟨fun h => mo_Ways_isOver, List.forall_mem_cons.mpr ⟨fun h => mo_Ways_placeToLook, List.forall_mem_cons.mpr ⟨fun h => mo_Ways_greaterPart, List.forall_mem_cons.mpr ⟨fun h => mo_Ways_steps, List.forall_mem_cons.mpr ⟨fun h => mo_Ways_nearest, List.forall_mem_cons.mpr ⟨fun h => mo_Ways_giveBundles, List.forall_mem_cons.mpr ⟨fun h => mo_Ways_nextToGive, List.forall_mem_cons.mpr ⟨fun h => mo_Lw_holt, List.forall_mem_cons.mpr ⟨fun h => mo_Lw_law, List.forall_mem_cons.mpr ⟨fun h => mo_Lw_bed, List.forall_mem_cons.mpr ⟨fun h => mo_Lw_basket, List.forall_mem_cons.mpr ⟨fun h => mo_Lw_run, List.forall_mem_cons.mpr ⟨fun h => mo_Lw_over, List.forall_mem_cons.mpr ⟨fun h => mo_Lw_sound, List.forall_mem_cons.mpr ⟨fun h => mo_Lw_store, List.forall_mem_cons.mpr ⟨fun h => mo_Lw_hand, List.forall_mem_cons.mpr ⟨fun h => mo_Lw_order, List.forall_mem_cons.mpr ⟨fun h => mo_Lw_years, List.forall_mem_cons.mpr ⟨fun h => mo_Lw_cut, List.forall_mem_cons.mpr ⟨fun h => mo_Lw_buy, List.forall_mem_cons.mpr ⟨fun h => mo_Lw_sell, List.forall_mem_cons.mpr ⟨fun h => mo_Lw_take, List.forall_mem_cons.mpr ⟨fun h => mo_Lw_drop, fun _ h => nomatch h⟩⟩⟩⟩⟩⟩⟩⟩⟩⟩⟩⟩⟩⟩⟩⟩⟩⟩⟩⟩⟩⟩⟩⟩⟩⟩⟩⟩⟩⟩⟩⟩⟩⟩⟩⟩⟩⟩⟩⟩
theorem mj_bls_9_ok : ∀ q ∈ mj_bls_9, mj_okB q := List.forall_mem_cons.mpr ⟨mb_Lw_drain, List.forall_mem_cons.mpr ⟨mb_Lw_hire, List.forall_mem_cons.mpr ⟨mb_Lw_teach, List.forall_mem_cons.mpr ⟨mb_Lw_make, List.forall_mem_cons.mpr ⟨mb_Lw_gain, List.forall_mem_cons.mpr ⟨mb_Lw_cuts, List.forall_mem_cons.mpr ⟨mb_Lw_pieces, List.forall_mem_cons.mpr ⟨mb_Lw_rod, List.forall_mem_cons.mpr ⟨mb_Lw_found, List.forall_mem_cons.mpr ⟨mb_Lw_look, List.forall_mem_cons.mpr ⟨mb_Lw_team, List.forall_mem_cons.mpr ⟨mb_Lw_pairs, List.forall_mem_cons.mpr ⟨mb_Lw_change, List.forall_mem_cons.mpr ⟨mb_Lw_share, List.forall_mem_cons.mpr ⟨mb_Lw_price, List.forall_mem_cons.mpr ⟨mb_Lw_rests, List.forall_mem_cons.mpr ⟨mb_Lw_odds, List.forall_mem_cons.mpr ⟨mb_Lw_most, List.forall_mem_cons.mpr ⟨mb_Lw_sort, List.forall_mem_cons.mpr ⟨mb_Lw_ahead, List.forall_mem_cons.mpr ⟨mb_Lw_trial, List.forall_mem_cons.mpr ⟨mb_Lw_span, List.forall_mem_cons.mpr ⟨mb_Lw_led, List.forall_mem_cons.mpr ⟨mb_Lw_log, List.forall_mem_cons.mpr ⟨mb_Lw_lawmain, List.forall_mem_cons.mpr ⟨mb_JInt_bitCount, fun _ h => nomatch h⟩⟩⟩⟩⟩⟩⟩⟩⟩⟩⟩⟩⟩⟩⟩⟩⟩⟩⟩⟩⟩⟩⟩⟩⟩⟩
theorem mj_mt_9_ok : ∀ q ∈ mj_mt_9, q.1 ≠ j_Lw_lawmain → mj_okM q.1 := List.forall_mem_cons.mpr ⟨fun h => mo_Lw_drain, List.forall_mem_cons.mpr ⟨fun h => mo_Lw_hire, List.forall_mem_cons.mpr ⟨fun h => mo_Lw_teach, List.forall_mem_cons.mpr ⟨fun h => mo_Lw_make, List.forall_mem_cons.mpr ⟨fun h => mo_Lw_gain, List.forall_mem_cons.mpr ⟨fun h => mo_Lw_cuts, List.forall_mem_cons.mpr ⟨fun h => mo_Lw_pieces, List.forall_mem_cons.mpr ⟨fun h => mo_Lw_rod, List.forall_mem_cons.mpr ⟨fun h => mo_Lw_found, List.forall_mem_cons.mpr ⟨fun h => mo_Lw_look, List.forall_mem_cons.mpr ⟨fun h => mo_Lw_team, List.forall_mem_cons.mpr ⟨fun h => mo_Lw_pairs, List.forall_mem_cons.mpr ⟨fun h => mo_Lw_change, List.forall_mem_cons.mpr ⟨fun h => mo_Lw_share, List.forall_mem_cons.mpr ⟨fun h => mo_Lw_price, List.forall_mem_cons.mpr ⟨fun h => mo_Lw_rests, List.forall_mem_cons.mpr ⟨fun h => mo_Lw_odds, List.forall_mem_cons.mpr ⟨fun h => mo_Lw_most, List.forall_mem_cons.mpr ⟨fun h => mo_Lw_sort, List.forall_mem_cons.mpr ⟨fun h => mo_Lw_ahead, List.forall_mem_cons.mpr ⟨fun h => mo_Lw_trial, List.forall_mem_cons.mpr ⟨fun h => mo_Lw_span, List.forall_mem_cons.mpr ⟨fun h => mo_Lw_led, List.forall_mem_cons.mpr ⟨fun h => mo_Lw_log, List.forall_mem_cons.mpr ⟨fun h => absurd rfl h, List.forall_mem_cons.mpr ⟨fun h => mo_JInt_bitCount, fun _ h => nomatch h⟩⟩⟩⟩⟩⟩⟩⟩⟩⟩⟩⟩⟩⟩⟩⟩⟩⟩⟩⟩⟩⟩⟩⟩⟩⟩
theorem mj_lookup_mem {α : Type} {l : List (Nat × α)} {k : Nat} {v : α} (h : l.lookup k = some v) : (k, v) ∈ l := by
  induction l with
  | nil => cases h
  | cons q l ih =>
    obtain ⟨a, b⟩ := q
    rw [List.lookup_cons] at h
    by_cases e : (k == a) = true
    · rw [e] at h
      have e2 : k = a := by simpa using e
      cases h
      subst e2
      exact List.mem_cons_self
    · have e3 : (k == a) = false := by simpa using e
      rw [e3] at h
      exact List.mem_cons_of_mem _ (ih h)
theorem mj_blk_ok (c : Nat) : ∀ q ∈ mj_blk c, mj_okB q := by
  unfold mj_blk; split
  · exact mj_bls_0_ok
  · exact mj_bls_1_ok
  · exact mj_bls_2_ok
  · exact mj_bls_3_ok
  · exact mj_bls_4_ok
  · exact mj_bls_5_ok
  · exact mj_bls_6_ok
  · exact mj_bls_7_ok
  · exact mj_bls_8_ok
  · exact mj_bls_9_ok
theorem mj_mt_ok (c : Nat) : ∀ q ∈ mj_mt c, q.1 ≠ j_Lw_lawmain → mj_okM q.1 := by
  unfold mj_mt; split
  · exact mj_mt_0_ok
  · exact mj_mt_1_ok
  · exact mj_mt_2_ok
  · exact mj_mt_3_ok
  · exact mj_mt_4_ok
  · exact mj_mt_5_ok
  · exact mj_mt_6_ok
  · exact mj_mt_7_ok
  · exact mj_mt_8_ok
  · exact mj_mt_9_ok
theorem mj_m_facts {j : Nat} {e : MethodName × ByteArray × Option FieldType × Bool × Nat × Nat} (he : mj_m j = some e) (hj : j ≠ j_Lw_lawmain) : mj_facts j e.1 e.2.1 e.2.2.1 e.2.2.2.2.1 :=
  mj_mt_ok _ _ (mj_lookup_mem he) hj e he
theorem mj_m_ck {j pc : Nat} {b : mj_B × Nat} {e : MethodName × ByteArray × Option FieldType × Bool × Nat × Nat} (he : mj_m j = some e) (hb : mj_bl j pc = some b) : mj_ckb (j / 32 % 32) e.2.1 e.2.2.1 (decide (e.2.2.2.2.1 = 2)) b.1 pc b.2 = true := by
  unfold mj_bl at hb
  cases hl : (mj_blk (j / 131072 / 40)).lookup j with
  | none => rw [hl] at hb; cases hb
  | some l =>
    rw [hl] at hb
    have h1 := mj_blk_ok _ _ (mj_lookup_mem hl) e he
    exact List.all_eq_true.mp h1 _ (mj_lookup_mem hb)
/-- a call is of the kind of its method, which is not the law, and has its name -/
def mj_kd (i : Instr) : Bool := match i with
  | .invokestatic j => match mj_m j with
    | some e => e.2.2.2.2.1 == 0 && j != j_Lw_lawmain
    | none => false
  | .invokevirtual j => match mj_m j with
    | some e => e.2.2.2.2.1 == 1
    | none => false
  | .invokespecial j => match mj_m j with
    | some e => e.2.2.2.2.1 == 2
    | none => false
  | _ => true
def mj_kds (q : Nat × List (Nat × mj_B × Nat)) : Prop := ∀ b ∈ q.2, ∀ z ∈ b.2.1, mj_kd z.2 = true
theorem mj_kds_of {q : Nat × List (Nat × mj_B × Nat)} (h : q.2.all (fun b => b.2.1.all (fun z => mj_kd z.2)) = true) : mj_kds q := fun b hb z hz => List.all_eq_true.mp (List.all_eq_true.mp h b hb) z hz
theorem mk_Main_init : mj_kds (2336, bl_Main_init) := mj_kds_of (by decide +kernel)
theorem mk_Main_feed : mj_kds (137509, bl_Main_feed) := mj_kds_of (by decide +kernel)
theorem mk_Main_end : mj_kds (330017, bl_Main_end) := mj_kds_of (by decide +kernel)
theorem mk_Main_holt : mj_kds (395552, bl_Main_holt) := mj_kds_of (by decide +kernel)
theorem mk_Main_law : mj_kds (526624, bl_Main_law) := mj_kds_of (by decide +kernel)
theorem mk_Main_fault : mj_kds (656672, bl_Main_fault) := mj_kds_of (by decide +kernel)
theorem mk_Main_bed : mj_kds (789794, bl_Main_bed) := mj_kds_of (by decide +kernel)
theorem mk_Main_basket : mj_kds (921890, bl_Main_basket) := mj_kds_of (by decide +kernel)
theorem mk_Main_run : mj_kds (1051938, bl_Main_run) := mj_kds_of (by decide +kernel)
theorem mk_Main_over : mj_kds (1250595, bl_Main_over) := mj_kds_of (by decide +kernel)
theorem mk_Main_sound : mj_kds (1378593, bl_Main_sound) := mj_kds_of (by decide +kernel)
theorem mk_Main_store : mj_kds (1444129, bl_Main_store) := mj_kds_of (by decide +kernel)
theorem mk_Main_hand : mj_kds (1576226, bl_Main_hand) := mj_kds_of (by decide +kernel)
theorem mk_Main_order : mj_kds (1707298, bl_Main_order) := mj_kds_of (by decide +kernel)
theorem mk_Main_years : mj_kds (1837345, bl_Main_years) := mj_kds_of (by decide +kernel)
theorem mk_Main_cut : mj_kds (1971489, bl_Main_cut) := mj_kds_of (by decide +kernel)
theorem mk_Main_buy : mj_kds (2100514, bl_Main_buy) := mj_kds_of (by decide +kernel)
theorem mk_Main_sell : mj_kds (2231586, bl_Main_sell) := mj_kds_of (by decide +kernel)
theorem mk_Main_take : mj_kds (2362658, bl_Main_take) := mj_kds_of (by decide +kernel)
theorem mk_Main_drop : mj_kds (2492705, bl_Main_drop) := mj_kds_of (by decide +kernel)
theorem mk_Main_drain : mj_kds (2625826, bl_Main_drain) := mj_kds_of (by decide +kernel)
theorem mk_Main_hire : mj_kds (2755874, bl_Main_hire) := mj_kds_of (by decide +kernel)
theorem mk_Main_teach : mj_kds (2885921, bl_Main_teach) := mj_kds_of (by decide +kernel)
theorem mk_Main_make : mj_kds (3016993, bl_Main_make) := mj_kds_of (by decide +kernel)
theorem mk_Main_gain : mj_kds (3149090, bl_Main_gain) := mj_kds_of (by decide +kernel)
theorem mk_Main_cuts : mj_kds (3280162, bl_Main_cuts) := mj_kds_of (by decide +kernel)
theorem mk_Main_worth : mj_kds (3409184, bl_Main_worth) := mj_kds_of (by decide +kernel)
theorem mk_Main_fills : mj_kds (3540256, bl_Main_fills) := mj_kds_of (by decide +kernel)
theorem mk_Main_pieces : mj_kds (3673377, bl_Main_pieces) := mj_kds_of (by decide +kernel)
theorem mk_Main_rod : mj_kds (3805474, bl_Main_rod) := mj_kds_of (by decide +kernel)
theorem mk_Main_found : mj_kds (3934497, bl_Main_found) := mj_kds_of (by decide +kernel)
theorem mk_Main_look : mj_kds (4064544, bl_Main_look) := mj_kds_of (by decide +kernel)
theorem mk_Main_team : mj_kds (4197665, bl_Main_team) := mj_kds_of (by decide +kernel)
theorem mk_Main_pairs : mj_kds (4328737, bl_Main_pairs) := mj_kds_of (by decide +kernel)
theorem mk_Main_change : mj_kds (4459810, bl_Main_change) := mj_kds_of (by decide +kernel)
theorem mk_Main_share : mj_kds (4590882, bl_Main_share) := mj_kds_of (by decide +kernel)
theorem mk_Main_price : mj_kds (4720929, bl_Main_price) := mj_kds_of (by decide +kernel)
theorem mk_Main_rests : mj_kds (4855073, bl_Main_rests) := mj_kds_of (by decide +kernel)
theorem mk_Main_odds : mj_kds (4989218, bl_Main_odds) := mj_kds_of (by decide +kernel)
theorem mk_Main_most : mj_kds (5114145, bl_Main_most) := mj_kds_of (by decide +kernel)
theorem mk_Main_open : mj_kds (5245217, bl_Main_open) := mj_kds_of (by decide +kernel)
theorem mk_Main_twins : mj_kds (5375264, bl_Main_twins) := mj_kds_of (by decide +kernel)
theorem mk_Main_sort : mj_kds (5507361, bl_Main_sort) := mj_kds_of (by decide +kernel)
theorem mk_Main_lengths : mj_kds (5639456, bl_Main_lengths) := mj_kds_of (by decide +kernel)
theorem mk_Main_ahead : mj_kds (5771555, bl_Main_ahead) := mj_kds_of (by decide +kernel)
theorem mk_Main_trial : mj_kds (5901602, bl_Main_trial) := mj_kds_of (by decide +kernel)
theorem mk_Main_span : mj_kds (6034722, bl_Main_span) := mj_kds_of (by decide +kernel)
theorem mk_Main_led : mj_kds (6163746, bl_Main_led) := mj_kds_of (by decide +kernel)
theorem mk_Main_log : mj_kds (6294818, bl_Main_log) := mj_kds_of (by decide +kernel)
theorem mk_Main_seed : mj_kds (6425889, bl_Main_seed) := mj_kds_of (by decide +kernel)
theorem mk_Main_undo : mj_kds (6621472, bl_Main_undo) := mj_kds_of (by decide +kernel)
theorem mk_Main_image : mj_kds (6685984, bl_Main_image) := mj_kds_of (by decide +kernel)
theorem mk_Main_back : mj_kds (6882592, bl_Main_back) := mj_kds_of (by decide +kernel)
theorem mk_Main_count : mj_kds (6949153, bl_Main_count) := mj_kds_of (by decide +kernel)
theorem mk_Main_needBed : mj_kds (7080225, bl_Main_needBed) := mj_kds_of (by decide +kernel)
theorem mk_Main_needBasket : mj_kds (7211297, bl_Main_needBasket) := mj_kds_of (by decide +kernel)
theorem mk_Main_needHand : mj_kds (7342369, bl_Main_needHand) := mj_kds_of (by decide +kernel)
theorem mk_Main_needOrder : mj_kds (7473441, bl_Main_needOrder) := mj_kds_of (by decide +kernel)
theorem mk_Main_needFeet : mj_kds (7603489, bl_Main_needFeet) := mj_kds_of (by decide +kernel)
theorem mk_Main_needIndex : mj_kds (7736611, bl_Main_needIndex) := mj_kds_of (by decide +kernel)
theorem mk_Main_needWithin : mj_kds (7867683, bl_Main_needWithin) := mj_kds_of (by decide +kernel)
theorem mk_Main_needTape : mj_kds (7996705, bl_Main_needTape) := mj_kds_of (by decide +kernel)
theorem mk_Main_needPossible : mj_kds (8127777, bl_Main_needPossible) := mj_kds_of (by decide +kernel)
theorem mk_Main_remember : mj_kds (8259872, bl_Main_remember) := mj_kds_of (by decide +kernel)
theorem mk_Main_restBit : mj_kds (8394021, bl_Main_restBit) := mj_kds_of (by decide +kernel)
theorem mk_Main_chanceOf : mj_kds (8526114, bl_Main_chanceOf) := mj_kds_of (by decide +kernel)
theorem mk_Main_firstGreatest : mj_kds (8655138, bl_Main_firstGreatest) := mj_kds_of (by decide +kernel)
theorem mk_Mod_init : mj_kds (8783168, bl_Mod_init) := mj_kds_of (by decide +kernel)
theorem mk_Mod_thrown : mj_kds (8914240, bl_Mod_thrown) := mj_kds_of (by decide +kernel)
theorem mk_Mod_isIn : mj_kds (9112899, bl_Mod_isIn) := mj_kds_of (by decide +kernel)
theorem mk_Mod_lesser : mj_kds (9177410, bl_Mod_lesser) := mj_kds_of (by decide +kernel)
theorem mk_Mod_greater : mj_kds (9308482, bl_Mod_greater) := mj_kds_of (by decide +kernel)
theorem mk_Mod_isOf : mj_kds (9505090, bl_Mod_isOf) := mj_kds_of (by decide +kernel)
theorem mk_Mod_bits : mj_kds (9571649, bl_Mod_bits) := mj_kds_of (by decide +kernel)
theorem mk_Mod_ofBed : mj_kds (9702722, bl_Mod_ofBed) := mj_kds_of (by decide +kernel)
theorem mk_Mod_ofBasket : mj_kds (9833794, bl_Mod_ofBasket) := mj_kds_of (by decide +kernel)
theorem mk_Mod_skill : mj_kds (9963841, bl_Mod_skill) := mj_kds_of (by decide +kernel)
theorem mk_Mod_wage : mj_kds (10094913, bl_Mod_wage) := mj_kds_of (by decide +kernel)
theorem mk_Mod_ofOrder : mj_kds (10227010, bl_Mod_ofOrder) := mj_kds_of (by decide +kernel)
theorem mk_Mod_stored : mj_kds (10357057, bl_Mod_stored) := mj_kds_of (by decide +kernel)
theorem mk_Mod_isBed : mj_kds (10553665, bl_Mod_isBed) := mj_kds_of (by decide +kernel)
theorem mk_Mod_isBasket : mj_kds (10684737, bl_Mod_isBasket) := mj_kds_of (by decide +kernel)
theorem mk_Mod_isHand : mj_kds (10815809, bl_Mod_isHand) := mj_kds_of (by decide +kernel)
theorem mk_Mod_isOrder : mj_kds (10946881, bl_Mod_isOrder) := mj_kds_of (by decide +kernel)
theorem mk_Mod_feed : mj_kds (11018565, bl_Mod_feed) := mj_kds_of (by decide +kernel)
theorem mk_Mod_end : mj_kds (11209025, bl_Mod_end) := mj_kds_of (by decide +kernel)
theorem mk_Mod_letter : mj_kds (11274561, bl_Mod_letter) := mj_kds_of (by decide +kernel)
theorem mk_Mod_skip : mj_kds (11404608, bl_Mod_skip) := mj_kds_of (by decide +kernel)
theorem mk_Mod_isSign : mj_kds (11602241, bl_Mod_isSign) := mj_kds_of (by decide +kernel)
theorem mk_Mod_has : mj_kds (11735361, bl_Mod_has) := mj_kds_of (by decide +kernel)
theorem mk_Mod_wrong : mj_kds (11798849, bl_Mod_wrong) := mj_kds_of (by decide +kernel)
theorem mk_Mod_here : mj_kds (11928896, bl_Mod_here) := mj_kds_of (by decide +kernel)
theorem mk_Mod_figures : mj_kds (12064066, bl_Mod_figures) := mj_kds_of (by decide +kernel)
theorem mk_Mod_after : mj_kds (12194115, bl_Mod_after) := mj_kds_of (by decide +kernel)
theorem mk_Mod_expects : mj_kds (12389697, bl_Mod_expects) := mj_kds_of (by decide +kernel)
theorem mk_Mod_sortWord : mj_kds (12455232, bl_Mod_sortWord) := mj_kds_of (by decide +kernel)
theorem mk_Mod_bedLine : mj_kds (12590401, bl_Mod_bedLine) := mj_kds_of (by decide +kernel)
theorem mk_Mod_isFigure : mj_kds (12780864, bl_Mod_isFigure) := mj_kds_of (by decide +kernel)
theorem mk_Mod_basketLine : mj_kds (12854593, bl_Mod_basketLine) := mj_kds_of (by decide +kernel)
theorem mk_Mod_rodsLine : mj_kds (12979520, bl_Mod_rodsLine) := mj_kds_of (by decide +kernel)
theorem mk_Mod_handLine : mj_kds (13111617, bl_Mod_handLine) := mj_kds_of (by decide +kernel)
theorem mk_Mod_hires : mj_kds (13241666, bl_Mod_hires) := mj_kds_of (by decide +kernel)
theorem mk_Mod_orderLine : mj_kds (13373761, bl_Mod_orderLine) := mj_kds_of (by decide +kernel)
theorem mk_Mod_takes : mj_kds (13504834, bl_Mod_takes) := mj_kds_of (by decide +kernel)
theorem mk_Mod_tells : mj_kds (13636931, bl_Mod_tells) := mj_kds_of (by decide +kernel)
theorem mk_Mod_holtLine : mj_kds (13764928, bl_Mod_holtLine) := mj_kds_of (by decide +kernel)
theorem mk_Mod_begins : mj_kds (13894976, bl_Mod_begins) := mj_kds_of (by decide +kernel)
theorem mk_Mod_read : mj_kds (14029121, bl_Mod_read) := mj_kds_of (by decide +kernel)
theorem mk_Mod_putsAside : mj_kds (14158144, bl_Mod_putsAside) := mj_kds_of (by decide +kernel)
theorem mk_Mod_comesBack : mj_kds (14289216, bl_Mod_comesBack) := mj_kds_of (by decide +kernel)
theorem mk_Mod_holt : mj_kds (14420288, bl_Mod_holt) := mj_kds_of (by decide +kernel)
theorem mk_Mod_part : mj_kds (14551360, bl_Mod_part) := mj_kds_of (by decide +kernel)
theorem mk_Mod_sum : mj_kds (14682432, bl_Mod_sum) := mj_kds_of (by decide +kernel)
theorem mk_Mod_plain : mj_kds (14881088, bl_Mod_plain) := mj_kds_of (by decide +kernel)
theorem mk_Mod_atom : mj_kds (15012160, bl_Mod_atom) := mj_kds_of (by decide +kernel)
theorem mk_Mod_every : mj_kds (15142208, bl_Mod_every) := mj_kds_of (by decide +kernel)
theorem mk_Mod_some : mj_kds (15273280, bl_Mod_some) := mj_kds_of (by decide +kernel)
theorem mk_Mod_lawLine : mj_kds (15339840, bl_Mod_lawLine) := mj_kds_of (by decide +kernel)
theorem mk_Mod_law : mj_kds (15469888, bl_Mod_law) := mj_kds_of (by decide +kernel)
theorem mk_Mod_fault : mj_kds (15598912, bl_Mod_fault) := mj_kds_of (by decide +kernel)
theorem mk_Mod_asks : mj_kds (15733057, bl_Mod_asks) := mj_kds_of (by decide +kernel)
theorem mk_Mod_reachOf : mj_kds (15862081, bl_Mod_reachOf) := mj_kds_of (by decide +kernel)
theorem mk_Mod_yieldOf : mj_kds (15993153, bl_Mod_yieldOf) := mj_kds_of (by decide +kernel)
theorem mk_Mod_period : mj_kds (16126273, bl_Mod_period) := mj_kds_of (by decide +kernel)
theorem mk_Mod_isOver : mj_kds (16323906, bl_Mod_isOver) := mj_kds_of (by decide +kernel)
theorem mk_Mod_comesAgain : mj_kds (16453954, bl_Mod_comesAgain) := mj_kds_of (by decide +kernel)
theorem mk_Mod_againOf : mj_kds (16518465, bl_Mod_againOf) := mj_kds_of (by decide +kernel)
theorem mk_Mod_needOf : mj_kds (16649537, bl_Mod_needOf) := mj_kds_of (by decide +kernel)
theorem mk_Mod_rodsOf : mj_kds (16779585, bl_Mod_rodsOf) := mj_kds_of (by decide +kernel)
theorem mk_Mod_feetOf : mj_kds (16910657, bl_Mod_feetOf) := mj_kds_of (by decide +kernel)
theorem mk_Mod_paysOf : mj_kds (17041729, bl_Mod_paysOf) := mj_kds_of (by decide +kernel)
theorem mk_Mod_hasRods : mj_kds (17238337, bl_Mod_hasRods) := mj_kds_of (by decide +kernel)
theorem mk_Mod_draw : mj_kds (17303873, bl_Mod_draw) := mj_kds_of (by decide +kernel)
theorem mk_Mod_logs : mj_kds (17438019, bl_Mod_logs) := mj_kds_of (by decide +kernel)
theorem mk_Mod_makes : mj_kds (17567042, bl_Mod_makes) := mj_kds_of (by decide +kernel)
theorem mk_Mod_ages : mj_kds (17698113, bl_Mod_ages) := mj_kds_of (by decide +kernel)
theorem mk_Mod_passes : mj_kds (17831233, bl_Mod_passes) := mj_kds_of (by decide +kernel)
theorem mk_Mod_goes : mj_kds (17962306, bl_Mod_goes) := mj_kds_of (by decide +kernel)
theorem mk_Mod_stoolsOfAll : mj_kds (18091328, bl_Mod_stoolsOfAll) := mj_kds_of (by decide +kernel)
theorem mk_Mod_openOnes : mj_kds (18222400, bl_Mod_openOnes) := mj_kds_of (by decide +kernel)
theorem mk_Mod_bed : mj_kds (18353474, bl_Mod_bed) := mj_kds_of (by decide +kernel)
theorem mk_Mod_looseBy : mj_kds (18488642, bl_Mod_looseBy) := mj_kds_of (by decide +kernel)
theorem mk_Mod_loose : mj_kds (18614593, bl_Mod_loose) := mj_kds_of (by decide +kernel)
theorem mk_Mod_floatOf : mj_kds (18748737, bl_Mod_floatOf) := mj_kds_of (by decide +kernel)
theorem mk_Mod_isSame : mj_kds (18945347, bl_Mod_isSame) := mj_kds_of (by decide +kernel)
theorem mk_Mod_dropOf : mj_kds (19011905, bl_Mod_dropOf) := mj_kds_of (by decide +kernel)
theorem mk_Mod_blindOf : mj_kds (19142977, bl_Mod_blindOf) := mj_kds_of (by decide +kernel)
theorem mk_Mod_fitOf : mj_kds (19270977, bl_Mod_fitOf) := mj_kds_of (by decide +kernel)
theorem mk_Mod_changeOf : mj_kds (19407170, bl_Mod_changeOf) := mj_kds_of (by decide +kernel)
theorem mk_Mod_nearest : mj_kds (19536193, bl_Mod_nearest) := mj_kds_of (by decide +kernel)
theorem mk_Mod_basket : mj_kds (19664194, bl_Mod_basket) := mj_kds_of (by decide +kernel)
theorem mk_Mod_run : mj_kds (19795266, bl_Mod_run) := mj_kds_of (by decide +kernel)
theorem mk_Mod_over : mj_kds (19992899, bl_Mod_over) := mj_kds_of (by decide +kernel)
theorem mk_Mod_sound : mj_kds (20121921, bl_Mod_sound) := mj_kds_of (by decide +kernel)
theorem mk_Mod_store : mj_kds (20187457, bl_Mod_store) := mj_kds_of (by decide +kernel)
theorem mk_Mod_hand : mj_kds (20319554, bl_Mod_hand) := mj_kds_of (by decide +kernel)
theorem mk_Mod_order : mj_kds (20450626, bl_Mod_order) := mj_kds_of (by decide +kernel)
theorem mk_Mod_remembers : mj_kds (20580672, bl_Mod_remembers) := mj_kds_of (by decide +kernel)
theorem mk_Mod_sets : mj_kds (20713794, bl_Mod_sets) := mj_kds_of (by decide +kernel)
theorem mk_Mod_years : mj_kds (20842817, bl_Mod_years) := mj_kds_of (by decide +kernel)
theorem mk_Mod_cut : mj_kds (20976961, bl_Mod_cut) := mj_kds_of (by decide +kernel)
theorem mk_Mod_buy : mj_kds (21107010, bl_Mod_buy) := mj_kds_of (by decide +kernel)
theorem mk_Mod_sell : mj_kds (21238082, bl_Mod_sell) := mj_kds_of (by decide +kernel)
theorem mk_Mod_take : mj_kds (21368130, bl_Mod_take) := mj_kds_of (by decide +kernel)
theorem mk_Mod_drop : mj_kds (21499201, bl_Mod_drop) := mj_kds_of (by decide +kernel)
theorem mk_Mod_drain : mj_kds (21630274, bl_Mod_drain) := mj_kds_of (by decide +kernel)
theorem mk_Mod_hire : mj_kds (21761346, bl_Mod_hire) := mj_kds_of (by decide +kernel)
theorem mk_Mod_teach : mj_kds (21892417, bl_Mod_teach) := mj_kds_of (by decide +kernel)
theorem mk_Mod_make : mj_kds (22022465, bl_Mod_make) := mj_kds_of (by decide +kernel)
theorem mk_Mod_gainBy : mj_kds (22158659, bl_Mod_gainBy) := mj_kds_of (by decide +kernel)
theorem mk_Mod_cutsOf : mj_kds (22288706, bl_Mod_cutsOf) := mj_kds_of (by decide +kernel)
theorem mk_Mod_gain : mj_kds (22416706, bl_Mod_gain) := mj_kds_of (by decide +kernel)
theorem mk_Mod_cuts : mj_kds (22547778, bl_Mod_cuts) := mj_kds_of (by decide +kernel)
theorem mk_Mod_filled : mj_kds (22680897, bl_Mod_filled) := mj_kds_of (by decide +kernel)
theorem mk_Mod_mostFilled : mj_kds (22810944, bl_Mod_mostFilled) := mj_kds_of (by decide +kernel)
theorem mk_Mod_worth : mj_kds (22938944, bl_Mod_worth) := mj_kds_of (by decide +kernel)
theorem mk_Mod_fills : mj_kds (23070016, bl_Mod_fills) := mj_kds_of (by decide +kernel)
theorem mk_Mod_packs : mj_kds (23273797, bl_Mod_packs) := mj_kds_of (by decide +kernel)
theorem mk_Mod_rodsFor : mj_kds (23335234, bl_Mod_rodsFor) := mj_kds_of (by decide +kernel)
theorem mk_Mod_pieceMany : mj_kds (23467329, bl_Mod_pieceMany) := mj_kds_of (by decide +kernel)
theorem mk_Mod_pieces : mj_kds (23596353, bl_Mod_pieces) := mj_kds_of (by decide +kernel)
theorem mk_Mod_rod : mj_kds (23728450, bl_Mod_rod) := mj_kds_of (by decide +kernel)
theorem mk_Mod_isWeave : mj_kds (23924033, bl_Mod_isWeave) := mj_kds_of (by decide +kernel)
theorem mk_Mod_isPassed : mj_kds (24054082, bl_Mod_isPassed) := mj_kds_of (by decide +kernel)
theorem mk_Mod_sees : mj_kds (24188224, bl_Mod_sees) := mj_kds_of (by decide +kernel)
theorem mk_Mod_seenMany : mj_kds (24251712, bl_Mod_seenMany) := mj_kds_of (by decide +kernel)
theorem mk_Mod_found : mj_kds (24382785, bl_Mod_found) := mj_kds_of (by decide +kernel)
theorem mk_Mod_look : mj_kds (24517952, bl_Mod_look) := mj_kds_of (by decide +kernel)
theorem mk_Mod_worksBy : mj_kds (24644930, bl_Mod_worksBy) := mj_kds_of (by decide +kernel)
theorem mk_Mod_allTeams : mj_kds (24778048, bl_Mod_allTeams) := mj_kds_of (by decide +kernel)
theorem mk_Mod_team : mj_kds (24911169, bl_Mod_team) := mj_kds_of (by decide +kernel)
theorem mk_Mod_lowest : mj_kds (25037121, bl_Mod_lowest) := mj_kds_of (by decide +kernel)
theorem mk_Mod_both : mj_kds (25169218, bl_Mod_both) := mj_kds_of (by decide +kernel)
theorem mk_Mod_allBest : mj_kds (25302336, bl_Mod_allBest) := mj_kds_of (by decide +kernel)
theorem mk_Mod_pairs : mj_kds (25435457, bl_Mod_pairs) := mj_kds_of (by decide +kernel)
theorem mk_Mod_change : mj_kds (25562434, bl_Mod_change) := mj_kds_of (by decide +kernel)
theorem mk_Mod_share : mj_kds (25696578, bl_Mod_share) := mj_kds_of (by decide +kernel)
theorem mk_Mod_earned : mj_kds (25826626, bl_Mod_earned) := mj_kds_of (by decide +kernel)
theorem mk_Mod_price : mj_kds (25956673, bl_Mod_price) := mj_kds_of (by decide +kernel)
theorem mk_Mod_heHas : mj_kds (26087747, bl_Mod_heHas) := mj_kds_of (by decide +kernel)
theorem mk_Mod_riverHas : mj_kds (26216770, bl_Mod_riverHas) := mj_kds_of (by decide +kernel)
theorem mk_Mod_rests : mj_kds (26351937, bl_Mod_rests) := mj_kds_of (by decide +kernel)
theorem mk_Mod_odds : mj_kds (26488130, bl_Mod_odds) := mj_kds_of (by decide +kernel)
theorem mk_Mod_valueOf : mj_kds (26611010, bl_Mod_valueOf) := mj_kds_of (by decide +kernel)
theorem mk_Mod_most : mj_kds (26744129, bl_Mod_most) := mj_kds_of (by decide +kernel)
theorem mk_Mod_open : mj_kds (26874177, bl_Mod_open) := mj_kds_of (by decide +kernel)
theorem mk_Mod_twins : mj_kds (27005248, bl_Mod_twins) := mj_kds_of (by decide +kernel)
theorem mk_Mod_sort : mj_kds (27136321, bl_Mod_sort) := mj_kds_of (by decide +kernel)
theorem mk_Mod_lengths : mj_kds (27266368, bl_Mod_lengths) := mj_kds_of (by decide +kernel)
theorem mk_Mod_ahead : mj_kds (27400515, bl_Mod_ahead) := mj_kds_of (by decide +kernel)
theorem mk_Mod_trial : mj_kds (27530562, bl_Mod_trial) := mj_kds_of (by decide +kernel)
theorem mk_Mod_span : mj_kds (27663682, bl_Mod_span) := mj_kds_of (by decide +kernel)
theorem mk_Mod_logged : mj_kds (27790658, bl_Mod_logged) := mj_kds_of (by decide +kernel)
theorem mk_Mod_led : mj_kds (27924802, bl_Mod_led) := mj_kds_of (by decide +kernel)
theorem mk_Mod_log : mj_kds (28052802, bl_Mod_log) := mj_kds_of (by decide +kernel)
theorem mk_Mod_seed : mj_kds (28183873, bl_Mod_seed) := mj_kds_of (by decide +kernel)
theorem mk_Mod_undo : mj_kds (28379456, bl_Mod_undo) := mj_kds_of (by decide +kernel)
theorem mk_Mod_image : mj_kds (28444992, bl_Mod_image) := mj_kds_of (by decide +kernel)
theorem mk_Mod_back : mj_kds (28641600, bl_Mod_back) := mj_kds_of (by decide +kernel)
theorem mk_Mod_count : mj_kds (28707137, bl_Mod_count) := mj_kds_of (by decide +kernel)
theorem mk_Baskets_init : mj_kds (28836864, bl_Baskets_init) := mj_kds_of (by decide +kernel)
theorem mk_Baskets_copy : mj_kds (28968961, bl_Baskets_copy) := mj_kds_of (by decide +kernel)
theorem mk_Baskets_beginWeave : mj_kds (29100033, bl_Baskets_beginWeave) := mj_kds_of (by decide +kernel)
theorem mk_Baskets_addRun : mj_kds (29233154, bl_Baskets_addRun) := mj_kds_of (by decide +kernel)
theorem mk_Baskets_runOf : mj_kds (29363202, bl_Baskets_runOf) := mj_kds_of (by decide +kernel)
theorem mk_Baskets_passesOver : mj_kds (29560834, bl_Baskets_passesOver) := mj_kds_of (by decide +kernel)
theorem mk_Baskets_needOf : mj_kds (29626369, bl_Baskets_needOf) := mj_kds_of (by decide +kernel)
theorem mk_Baskets_againOf : mj_kds (29757441, bl_Baskets_againOf) := mj_kds_of (by decide +kernel)
theorem mk_Baskets_isAlikeAfter : mj_kds (29954050, bl_Baskets_isAlikeAfter) := mj_kds_of (by decide +kernel)
theorem mk_Baskets_looseOf : mj_kds (30020610, bl_Baskets_looseOf) := mj_kds_of (by decide +kernel)
theorem mk_Baskets_floatOf : mj_kds (30148609, bl_Baskets_floatOf) := mj_kds_of (by decide +kernel)
theorem mk_Baskets_dropOf : mj_kds (30281729, bl_Baskets_dropOf) := mj_kds_of (by decide +kernel)
theorem mk_Baskets_longestAlike : mj_kds (30418948, bl_Baskets_longestAlike) := mj_kds_of (by decide +kernel)
theorem mk_Baskets_blindOf : mj_kds (30543873, bl_Baskets_blindOf) := mj_kds_of (by decide +kernel)
theorem mk_Baskets_isBlind : mj_kds (30741506, bl_Baskets_isBlind) := mj_kds_of (by decide +kernel)
theorem mk_Baskets_fitOf : mj_kds (30804993, bl_Baskets_fitOf) := mj_kds_of (by decide +kernel)
theorem mk_Baskets_bestPrice : mj_kds (30939137, bl_Baskets_bestPrice) := mj_kds_of (by decide +kernel)
theorem mk_Baskets_buyersAt : mj_kds (31069186, bl_Baskets_buyersAt) := mj_kds_of (by decide +kernel)
theorem mk_Beds_init : mj_kds (31196192, bl_Beds_init) := mj_kds_of (by decide +kernel)
theorem mk_Beds_copy : mj_kds (31328289, bl_Beds_copy) := mj_kds_of (by decide +kernel)
theorem mk_Beds_add : mj_kds (31462436, bl_Beds_add) := mj_kds_of (by decide +kernel)
theorem mk_Beds_grow : mj_kds (31591457, bl_Beds_grow) := mj_kds_of (by decide +kernel)
theorem mk_Beds_stoolsAhead : mj_kds (31724578, bl_Beds_stoolsAhead) := mj_kds_of (by decide +kernel)
theorem mk_Beds_partOf : mj_kds (31854625, bl_Beds_partOf) := mj_kds_of (by decide +kernel)
theorem mk_Beds_feetCut : mj_kds (31988771, bl_Beds_feetCut) := mj_kds_of (by decide +kernel)
theorem mk_Beds_bestCuts : mj_kds (32118818, bl_Beds_bestCuts) := mj_kds_of (by decide +kernel)
theorem mk_Beds_twinPairs : mj_kds (32247840, bl_Beds_twinPairs) := mj_kds_of (by decide +kernel)
theorem mk_Beds_ofSort : mj_kds (32378913, bl_Beds_ofSort) := mj_kds_of (by decide +kernel)
theorem mk_Hands_init : mj_kds (32506944, bl_Hands_init) := mj_kds_of (by decide +kernel)
theorem mk_Hands_copy : mj_kds (32639041, bl_Hands_copy) := mj_kds_of (by decide +kernel)
theorem mk_Hands_add : mj_kds (32771138, bl_Hands_add) := mj_kds_of (by decide +kernel)
theorem mk_Holt_init : mj_kds (32900192, bl_Holt_init) := mj_kds_of (by decide +kernel)
theorem mk_Holt_copy : mj_kds (33032289, bl_Holt_copy) := mj_kds_of (by decide +kernel)
theorem mk_Holt_earn : mj_kds (33163361, bl_Holt_earn) := mj_kds_of (by decide +kernel)
theorem mk_Holt_passYears : mj_kds (33296481, bl_Holt_passYears) := mj_kds_of (by decide +kernel)
theorem mk_Holt_passYear : mj_kds (33425504, bl_Holt_passYear) := mj_kds_of (by decide +kernel)
theorem mk_Holt_draw : mj_kds (33555552, bl_Holt_draw) := mj_kds_of (by decide +kernel)
theorem mk_Holt_payHands : mj_kds (33688672, bl_Holt_payHands) := mj_kds_of (by decide +kernel)
theorem mk_Holt_makeOrders : mj_kds (33820769, bl_Holt_makeOrders) := mj_kds_of (by decide +kernel)
theorem mk_Holt_rodsFor : mj_kds (33949793, bl_Holt_rodsFor) := mj_kds_of (by decide +kernel)
theorem mk_Holt_feetFor : mj_kds (34080865, bl_Holt_feetFor) := mj_kds_of (by decide +kernel)
theorem mk_Holt_payFor : mj_kds (34211937, bl_Holt_payFor) := mj_kds_of (by decide +kernel)
theorem mk_Holt_canMake : mj_kds (34408545, bl_Holt_canMake) := mj_kds_of (by decide +kernel)
theorem mk_Holt_makeUp : mj_kds (34476130, bl_Holt_makeUp) := mj_kds_of (by decide +kernel)
theorem mk_Holt_canMakeBits : mj_kds (34606176, bl_Holt_canMakeBits) := mj_kds_of (by decide +kernel)
theorem mk_Holt_bestFills : mj_kds (34739296, bl_Holt_bestFills) := mj_kds_of (by decide +kernel)
theorem mk_Holt_payOf : mj_kds (34869345, bl_Holt_payOf) := mj_kds_of (by decide +kernel)
theorem mk_Holt_canFill : mj_kds (35066977, bl_Holt_canFill) := mj_kds_of (by decide +kernel)
theorem mk_HoltText_read : mj_kds (35196258, bl_HoltText_read) := mj_kds_of (by decide +kernel)
theorem mk_HoltText_readLine : mj_kds (35261794, bl_HoltText_readLine) := mj_kds_of (by decide +kernel)
theorem mk_HoltText_readBed : mj_kds (35395938, bl_HoltText_readBed) := mj_kds_of (by decide +kernel)
theorem mk_HoltText_readSort : mj_kds (35521889, bl_HoltText_readSort) := mj_kds_of (by decide +kernel)
theorem mk_HoltText_readBasket : mj_kds (35656034, bl_HoltText_readBasket) := mj_kds_of (by decide +kernel)
theorem mk_HoltText_readHand : mj_kds (35787106, bl_HoltText_readHand) := mj_kds_of (by decide +kernel)
theorem mk_HoltText_readOrder : mj_kds (35918178, bl_HoltText_readOrder) := mj_kds_of (by decide +kernel)
theorem mk_Law_init : mj_kds (36045952, bl_Law_init) := mj_kds_of (by decide +kernel)
theorem mk_Law_clear : mj_kds (36177024, bl_Law_clear) := mj_kds_of (by decide +kernel)
theorem mk_Law_copy : mj_kds (36309121, bl_Law_copy) := mj_kds_of (by decide +kernel)
theorem mk_Law_emit : mj_kds (36440193, bl_Law_emit) := mj_kds_of (by decide +kernel)
theorem mk_Law_endLine : mj_kds (36572290, bl_Law_endLine) := mj_kds_of (by decide +kernel)
theorem mk_Law_reachOf : mj_kds (36704386, bl_Law_reachOf) := mj_kds_of (by decide +kernel)
theorem mk_Law_yieldOf : mj_kds (36834434, bl_Law_yieldOf) := mj_kds_of (by decide +kernel)
theorem mk_Law_costOf : mj_kds (36965506, bl_Law_costOf) := mj_kds_of (by decide +kernel)
theorem mk_Law_sumOf : mj_kds (37099651, bl_Law_sumOf) := mj_kds_of (by decide +kernel)
theorem mk_Law_holds : mj_kds (37298307, bl_Law_holds) := mj_kds_of (by decide +kernel)
theorem mk_Law_reckon : mj_kds (37360772, bl_Law_reckon) := mj_kds_of (by decide +kernel)
theorem mk_Law_valueOf : mj_kds (37489795, bl_Law_valueOf) := mj_kds_of (by decide +kernel)
theorem mk_Law_joined : mj_kds (37620867, bl_Law_joined) := mj_kds_of (by decide +kernel)
theorem mk_LawText_read : mj_kds (37819778, bl_LawText_read) := mj_kds_of (by decide +kernel)
theorem mk_LawText_readKind : mj_kds (37881217, bl_LawText_readKind) := mj_kds_of (by decide +kernel)
theorem mk_LawText_readAny : mj_kds (38015363, bl_LawText_readAny) := mj_kds_of (by decide +kernel)
theorem mk_LawText_readAll : mj_kds (38146435, bl_LawText_readAll) := mj_kds_of (by decide +kernel)
theorem mk_LawText_readAtom : mj_kds (38276483, bl_LawText_readAtom) := mj_kds_of (by decide +kernel)
theorem mk_LawText_readComparison : mj_kds (38406530, bl_LawText_readComparison) := mj_kds_of (by decide +kernel)
theorem mk_LawText_readSum : mj_kds (38538626, bl_LawText_readSum) := mj_kds_of (by decide +kernel)
theorem mk_LawText_readPart : mj_kds (38667649, bl_LawText_readPart) := mj_kds_of (by decide +kernel)
theorem mk_Log_init : mj_kds (38798496, bl_Log_init) := mj_kds_of (by decide +kernel)
theorem mk_Log_copy : mj_kds (38930593, bl_Log_copy) := mj_kds_of (by decide +kernel)
theorem mk_Log_add : mj_kds (39065764, bl_Log_add) := mj_kds_of (by decide +kernel)
theorem mk_Log_cellOf : mj_kds (39193762, bl_Log_cellOf) := mj_kds_of (by decide +kernel)
theorem mk_Log_isCut : mj_kds (39390370, bl_Log_isCut) := mj_kds_of (by decide +kernel)
theorem mk_Log_cutsOf : mj_kds (39456929, bl_Log_cutsOf) := mj_kds_of (by decide +kernel)
theorem mk_Log_latestCut : mj_kds (39586977, bl_Log_latestCut) := mj_kds_of (by decide +kernel)
theorem mk_Orders_init : mj_kds (39716032, bl_Orders_init) := mj_kds_of (by decide +kernel)
theorem mk_Orders_copy : mj_kds (39848129, bl_Orders_copy) := mj_kds_of (by decide +kernel)
theorem mk_Orders_add : mj_kds (39980226, bl_Orders_add) := mj_kds_of (by decide +kernel)
theorem mk_Orders_isOpen : mj_kds (40175809, bl_Orders_isOpen) := mj_kds_of (by decide +kernel)
theorem mk_Orders_shut : mj_kds (40241345, bl_Orders_shut) := mj_kds_of (by decide +kernel)
theorem mk_Tape_init : mj_kds (40371424, bl_Tape_init) := mj_kds_of (by decide +kernel)
theorem mk_Tape_push : mj_kds (40504545, bl_Tape_push) := mj_kds_of (by decide +kernel)
theorem mk_Tape_start : mj_kds (40633568, bl_Tape_start) := mj_kds_of (by decide +kernel)
theorem mk_Tape_failed : mj_kds (40830176, bl_Tape_failed) := mj_kds_of (by decide +kernel)
theorem mk_Tape_fail : mj_kds (40895712, bl_Tape_fail) := mj_kds_of (by decide +kernel)
theorem mk_Tape_lineComes : mj_kds (41094370, bl_Tape_lineComes) := mj_kds_of (by decide +kernel)
theorem mk_Tape_isSign : mj_kds (41224417, bl_Tape_isSign) := mj_kds_of (by decide +kernel)
theorem mk_Tape_takeSign : mj_kds (41356513, bl_Tape_takeSign) := mj_kds_of (by decide +kernel)
theorem mk_Tape_isWord : mj_kds (41488609, bl_Tape_isWord) := mj_kds_of (by decide +kernel)
theorem mk_Tape_takeWord : mj_kds (41618657, bl_Tape_takeWord) := mj_kds_of (by decide +kernel)
theorem mk_Tape_needWord : mj_kds (41683169, bl_Tape_needWord) := mj_kds_of (by decide +kernel)
theorem mk_Tape_isNumber : mj_kds (41878752, bl_Tape_isNumber) := mj_kds_of (by decide +kernel)
theorem mk_Tape_takeNumber : mj_kds (41948386, bl_Tape_takeNumber) := mj_kds_of (by decide +kernel)
theorem mk_Tape_isDigit : mj_kds (42140897, bl_Tape_isDigit) := mj_kds_of (by decide +kernel)
theorem mk_Tape_moveTo : mj_kds (42207457, bl_Tape_moveTo) := mj_kds_of (by decide +kernel)
theorem mk_Ways_init : mj_kds (42337536, bl_Ways_init) := mj_kds_of (by decide +kernel)
theorem mk_Ways_takePieces : mj_kds (42537217, bl_Ways_takePieces) := mj_kds_of (by decide +kernel)
theorem mk_Ways_takeSeen : mj_kds (42668289, bl_Ways_takeSeen) := mj_kds_of (by decide +kernel)
theorem mk_Ways_takeTelling : mj_kds (42799362, bl_Ways_takeTelling) := mj_kds_of (by decide +kernel)
theorem mk_Ways_beginTrying : mj_kds (42862848, bl_Ways_beginTrying) := mj_kds_of (by decide +kernel)
theorem mk_Ways_keepTried : mj_kds (42993921, bl_Ways_keepTried) := mj_kds_of (by decide +kernel)
theorem mk_Ways_fewestRods : mj_kds (43124993, bl_Ways_fewestRods) := mj_kds_of (by decide +kernel)
theorem mk_Ways_tryRods : mj_kds (43260164, bl_Ways_tryRods) := mj_kds_of (by decide +kernel)
theorem mk_Ways_bestTeam : mj_kds (43387137, bl_Ways_bestTeam) := mj_kds_of (by decide +kernel)
theorem mk_Ways_tryTeam : mj_kds (43523333, bl_Ways_tryTeam) := mj_kds_of (by decide +kernel)
theorem mk_Ways_bestPairs : mj_kds (43649281, bl_Ways_bestPairs) := mj_kds_of (by decide +kernel)
theorem mk_Ways_tryPairs : mj_kds (43783428, bl_Ways_tryPairs) := mj_kds_of (by decide +kernel)
theorem mk_Ways_findWeaves : mj_kds (43913472, bl_Ways_findWeaves) := mj_kds_of (by decide +kernel)
theorem mk_Ways_keepIfSeen : mj_kds (44044545, bl_Ways_keepIfSeen) := mj_kds_of (by decide +kernel)
theorem mk_Ways_isOver : mj_kds (44241154, bl_Ways_isOver) := mj_kds_of (by decide +kernel)
theorem mk_Ways_placeToLook : mj_kds (44307712, bl_Ways_placeToLook) := mj_kds_of (by decide +kernel)
theorem mk_Ways_greaterPart : mj_kds (44437761, bl_Ways_greaterPart) := mj_kds_of (by decide +kernel)
theorem mk_Ways_steps : mj_kds (44574979, bl_Ways_steps) := mj_kds_of (by decide +kernel)
theorem mk_Ways_nearest : mj_kds (44702978, bl_Ways_nearest) := mj_kds_of (by decide +kernel)
theorem mk_Ways_giveBundles : mj_kds (44832002, bl_Ways_giveBundles) := mj_kds_of (by decide +kernel)
theorem mk_Ways_nextToGive : mj_kds (44964097, bl_Ways_nextToGive) := mj_kds_of (by decide +kernel)
theorem mk_Lw_holt : mj_kds (45092258, bl_Lw_holt) := mj_kds_of (by decide +kernel)
theorem mk_Lw_law : mj_kds (45223330, bl_Lw_law) := mj_kds_of (by decide +kernel)
theorem mk_Lw_bed : mj_kds (45356452, bl_Lw_bed) := mj_kds_of (by decide +kernel)
theorem mk_Lw_basket : mj_kds (45487524, bl_Lw_basket) := mj_kds_of (by decide +kernel)
theorem mk_Lw_run : mj_kds (45618596, bl_Lw_run) := mj_kds_of (by decide +kernel)
theorem mk_Lw_over : mj_kds (45750693, bl_Lw_over) := mj_kds_of (by decide +kernel)
theorem mk_Lw_sound : mj_kds (45879715, bl_Lw_sound) := mj_kds_of (by decide +kernel)
theorem mk_Lw_store : mj_kds (46010787, bl_Lw_store) := mj_kds_of (by decide +kernel)
theorem mk_Lw_hand : mj_kds (46142884, bl_Lw_hand) := mj_kds_of (by decide +kernel)
theorem mk_Lw_order : mj_kds (46273956, bl_Lw_order) := mj_kds_of (by decide +kernel)
theorem mk_Lw_years : mj_kds (46404003, bl_Lw_years) := mj_kds_of (by decide +kernel)
theorem mk_Lw_cut : mj_kds (46535075, bl_Lw_cut) := mj_kds_of (by decide +kernel)
theorem mk_Lw_buy : mj_kds (46667172, bl_Lw_buy) := mj_kds_of (by decide +kernel)
theorem mk_Lw_sell : mj_kds (46798244, bl_Lw_sell) := mj_kds_of (by decide +kernel)
theorem mk_Lw_take : mj_kds (46929316, bl_Lw_take) := mj_kds_of (by decide +kernel)
theorem mk_Lw_drop : mj_kds (47058338, bl_Lw_drop) := mj_kds_of (by decide +kernel)
theorem mk_Lw_drain : mj_kds (47191460, bl_Lw_drain) := mj_kds_of (by decide +kernel)
theorem mk_Lw_hire : mj_kds (47322532, bl_Lw_hire) := mj_kds_of (by decide +kernel)
theorem mk_Lw_teach : mj_kds (47452579, bl_Lw_teach) := mj_kds_of (by decide +kernel)
theorem mk_Lw_make : mj_kds (47583651, bl_Lw_make) := mj_kds_of (by decide +kernel)
theorem mk_Lw_gain : mj_kds (47715748, bl_Lw_gain) := mj_kds_of (by decide +kernel)
theorem mk_Lw_cuts : mj_kds (47846820, bl_Lw_cuts) := mj_kds_of (by decide +kernel)
theorem mk_Lw_pieces : mj_kds (47976867, bl_Lw_pieces) := mj_kds_of (by decide +kernel)
theorem mk_Lw_rod : mj_kds (48108964, bl_Lw_rod) := mj_kds_of (by decide +kernel)
theorem mk_Lw_found : mj_kds (48239011, bl_Lw_found) := mj_kds_of (by decide +kernel)
theorem mk_Lw_look : mj_kds (48369058, bl_Lw_look) := mj_kds_of (by decide +kernel)
theorem mk_Lw_team : mj_kds (48501155, bl_Lw_team) := mj_kds_of (by decide +kernel)
theorem mk_Lw_pairs : mj_kds (48632227, bl_Lw_pairs) := mj_kds_of (by decide +kernel)
theorem mk_Lw_change : mj_kds (48764324, bl_Lw_change) := mj_kds_of (by decide +kernel)
theorem mk_Lw_share : mj_kds (48895396, bl_Lw_share) := mj_kds_of (by decide +kernel)
theorem mk_Lw_price : mj_kds (49025443, bl_Lw_price) := mj_kds_of (by decide +kernel)
theorem mk_Lw_rests : mj_kds (49156515, bl_Lw_rests) := mj_kds_of (by decide +kernel)
theorem mk_Lw_odds : mj_kds (49288612, bl_Lw_odds) := mj_kds_of (by decide +kernel)
theorem mk_Lw_most : mj_kds (49418659, bl_Lw_most) := mj_kds_of (by decide +kernel)
theorem mk_Lw_sort : mj_kds (49549731, bl_Lw_sort) := mj_kds_of (by decide +kernel)
theorem mk_Lw_ahead : mj_kds (49682853, bl_Lw_ahead) := mj_kds_of (by decide +kernel)
theorem mk_Lw_trial : mj_kds (49812900, bl_Lw_trial) := mj_kds_of (by decide +kernel)
theorem mk_Lw_span : mj_kds (49943972, bl_Lw_span) := mj_kds_of (by decide +kernel)
theorem mk_Lw_led : mj_kds (50075044, bl_Lw_led) := mj_kds_of (by decide +kernel)
theorem mk_Lw_log : mj_kds (50206116, bl_Lw_log) := mj_kds_of (by decide +kernel)
theorem mk_Lw_lawmain : mj_kds (50404769, bl_Lw_lawmain) := mj_kds_of (by decide +kernel)
theorem mk_JInt_bitCount : mj_kds (50464193, bl_JInt_bitCount) := mj_kds_of (by decide +kernel)
theorem mj_blk_0_kd : ∀ q ∈ mj_bls_0, mj_kds q := List.forall_mem_cons.mpr ⟨mk_Main_init, List.forall_mem_cons.mpr ⟨mk_Main_feed, List.forall_mem_cons.mpr ⟨mk_Main_end, List.forall_mem_cons.mpr ⟨mk_Main_holt, List.forall_mem_cons.mpr ⟨mk_Main_law, List.forall_mem_cons.mpr ⟨mk_Main_fault, List.forall_mem_cons.mpr ⟨mk_Main_bed, List.forall_mem_cons.mpr ⟨mk_Main_basket, List.forall_mem_cons.mpr ⟨mk_Main_run, List.forall_mem_cons.mpr ⟨mk_Main_over, List.forall_mem_cons.mpr ⟨mk_Main_sound, List.forall_mem_cons.mpr ⟨mk_Main_store, List.forall_mem_cons.mpr ⟨mk_Main_hand, List.forall_mem_cons.mpr ⟨mk_Main_order, List.forall_mem_cons.mpr ⟨mk_Main_years, List.forall_mem_cons.mpr ⟨mk_Main_cut, List.forall_mem_cons.mpr ⟨mk_Main_buy, List.forall_mem_cons.mpr ⟨mk_Main_sell, List.forall_mem_cons.mpr ⟨mk_Main_take, List.forall_mem_cons.mpr ⟨mk_Main_drop, List.forall_mem_cons.mpr ⟨mk_Main_drain, List.forall_mem_cons.mpr ⟨mk_Main_hire, List.forall_mem_cons.mpr ⟨mk_Main_teach, List.forall_mem_cons.mpr ⟨mk_Main_make, List.forall_mem_cons.mpr ⟨mk_Main_gain, List.forall_mem_cons.mpr ⟨mk_Main_cuts, List.forall_mem_cons.mpr ⟨mk_Main_worth, List.forall_mem_cons.mpr ⟨mk_Main_fills, List.forall_mem_cons.mpr ⟨mk_Main_pieces, List.forall_mem_cons.mpr ⟨mk_Main_rod, List.forall_mem_cons.mpr ⟨mk_Main_found, List.forall_mem_cons.mpr ⟨mk_Main_look, List.forall_mem_cons.mpr ⟨mk_Main_team, List.forall_mem_cons.mpr ⟨mk_Main_pairs, List.forall_mem_cons.mpr ⟨mk_Main_change, List.forall_mem_cons.mpr ⟨mk_Main_share, List.forall_mem_cons.mpr ⟨mk_Main_price, List.forall_mem_cons.mpr ⟨mk_Main_rests, List.forall_mem_cons.mpr ⟨mk_Main_odds, List.forall_mem_cons.mpr ⟨mk_Main_most, fun _ h => nomatch h⟩⟩⟩⟩⟩⟩⟩⟩⟩⟩⟩⟩⟩⟩⟩⟩⟩⟩⟩⟩⟩⟩⟩⟩⟩⟩⟩⟩⟩⟩⟩⟩⟩⟩⟩⟩⟩⟩⟩⟩
theorem mj_blk_1_kd : ∀ q ∈ mj_bls_1, mj_kds q := List.forall_mem_cons.mpr ⟨mk_Main_open, List.forall_mem_cons.mpr ⟨mk_Main_twins, List.forall_mem_cons.mpr ⟨mk_Main_sort, List.forall_mem_cons.mpr ⟨mk_Main_lengths, List.forall_mem_cons.mpr ⟨mk_Main_ahead, List.forall_mem_cons.mpr ⟨mk_Main_trial, List.forall_mem_cons.mpr ⟨mk_Main_span, List.forall_mem_cons.mpr ⟨mk_Main_led, List.forall_mem_cons.mpr ⟨mk_Main_log, List.forall_mem_cons.mpr ⟨mk_Main_seed, List.forall_mem_cons.mpr ⟨mk_Main_undo, List.forall_mem_cons.mpr ⟨mk_Main_image, List.forall_mem_cons.mpr ⟨mk_Main_back, List.forall_mem_cons.mpr ⟨mk_Main_count, List.forall_mem_cons.mpr ⟨mk_Main_needBed, List.forall_mem_cons.mpr ⟨mk_Main_needBasket, List.forall_mem_cons.mpr ⟨mk_Main_needHand, List.forall_mem_cons.mpr ⟨mk_Main_needOrder, List.forall_mem_cons.mpr ⟨mk_Main_needFeet, List.forall_mem_cons.mpr ⟨mk_Main_needIndex, List.forall_mem_cons.mpr ⟨mk_Main_needWithin, List.forall_mem_cons.mpr ⟨mk_Main_needTape, List.forall_mem_cons.mpr ⟨mk_Main_needPossible, List.forall_mem_cons.mpr ⟨mk_Main_remember, List.forall_mem_cons.mpr ⟨mk_Main_restBit, List.forall_mem_cons.mpr ⟨mk_Main_chanceOf, List.forall_mem_cons.mpr ⟨mk_Main_firstGreatest, List.forall_mem_cons.mpr ⟨mk_Mod_init, List.forall_mem_cons.mpr ⟨mk_Mod_thrown, List.forall_mem_cons.mpr ⟨mk_Mod_isIn, List.forall_mem_cons.mpr ⟨mk_Mod_lesser, List.forall_mem_cons.mpr ⟨mk_Mod_greater, List.forall_mem_cons.mpr ⟨mk_Mod_isOf, List.forall_mem_cons.mpr ⟨mk_Mod_bits, List.forall_mem_cons.mpr ⟨mk_Mod_ofBed, List.forall_mem_cons.mpr ⟨mk_Mod_ofBasket, List.forall_mem_cons.mpr ⟨mk_Mod_skill, List.forall_mem_cons.mpr ⟨mk_Mod_wage, List.forall_mem_cons.mpr ⟨mk_Mod_ofOrder, List.forall_mem_cons.mpr ⟨mk_Mod_stored, fun _ h => nomatch h⟩⟩⟩⟩⟩⟩⟩⟩⟩⟩⟩⟩⟩⟩⟩⟩⟩⟩⟩⟩⟩⟩⟩⟩⟩⟩⟩⟩⟩⟩⟩⟩⟩⟩⟩⟩⟩⟩⟩⟩
theorem mj_blk_2_kd : ∀ q ∈ mj_bls_2, mj_kds q := List.forall_mem_cons.mpr ⟨mk_Mod_isBed, List.forall_mem_cons.mpr ⟨mk_Mod_isBasket, List.forall_mem_cons.mpr ⟨mk_Mod_isHand, List.forall_mem_cons.mpr ⟨mk_Mod_isOrder, List.forall_mem_cons.mpr ⟨mk_Mod_feed, List.forall_mem_cons.mpr ⟨mk_Mod_end, List.forall_mem_cons.mpr ⟨mk_Mod_letter, List.forall_mem_cons.mpr ⟨mk_Mod_skip, List.forall_mem_cons.mpr ⟨mk_Mod_isSign, List.forall_mem_cons.mpr ⟨mk_Mod_has, List.forall_mem_cons.mpr ⟨mk_Mod_wrong, List.forall_mem_cons.mpr ⟨mk_Mod_here, List.forall_mem_cons.mpr ⟨mk_Mod_figures, List.forall_mem_cons.mpr ⟨mk_Mod_after, List.forall_mem_cons.mpr ⟨mk_Mod_expects, List.forall_mem_cons.mpr ⟨mk_Mod_sortWord, List.forall_mem_cons.mpr ⟨mk_Mod_bedLine, List.forall_mem_cons.mpr ⟨mk_Mod_isFigure, List.forall_mem_cons.mpr ⟨mk_Mod_basketLine, List.forall_mem_cons.mpr ⟨mk_Mod_rodsLine, List.forall_mem_cons.mpr ⟨mk_Mod_handLine, List.forall_mem_cons.mpr ⟨mk_Mod_hires, List.forall_mem_cons.mpr ⟨mk_Mod_orderLine, List.forall_mem_cons.mpr ⟨mk_Mod_takes, List.forall_mem_cons.mpr ⟨mk_Mod_tells, List.forall_mem_cons.mpr ⟨mk_Mod_holtLine, List.forall_mem_cons.mpr ⟨mk_Mod_begins, List.forall_mem_cons.mpr ⟨mk_Mod_read, List.forall_mem_cons.mpr ⟨mk_Mod_putsAside, List.forall_mem_cons.mpr ⟨mk_Mod_comesBack, List.forall_mem_cons.mpr ⟨mk_Mod_holt, List.forall_mem_cons.mpr ⟨mk_Mod_part, List.forall_mem_cons.mpr ⟨mk_Mod_sum, List.forall_mem_cons.mpr ⟨mk_Mod_plain, List.forall_mem_cons.mpr ⟨mk_Mod_atom, List.forall_mem_cons.mpr ⟨mk_Mod_every, List.forall_mem_cons.mpr ⟨mk_Mod_some, List.forall_mem_cons.mpr ⟨mk_Mod_lawLine, List.forall_mem_cons.mpr ⟨mk_Mod_law, List.forall_mem_cons.mpr ⟨mk_Mod_fault, fun _ h => nomatch h⟩⟩⟩⟩⟩⟩⟩⟩⟩⟩⟩⟩⟩⟩⟩⟩⟩⟩⟩⟩⟩⟩⟩⟩⟩⟩⟩⟩⟩⟩⟩⟩⟩⟩⟩⟩⟩⟩⟩⟩
theorem mj_blk_3_kd : ∀ q ∈ mj_bls_3, mj_kds q := List.forall_mem_cons.mpr ⟨mk_Mod_asks, List.forall_mem_cons.mpr ⟨mk_Mod_reachOf, List.forall_mem_cons.mpr ⟨mk_Mod_yieldOf, List.forall_mem_cons.mpr ⟨mk_Mod_period, List.forall_mem_cons.mpr ⟨mk_Mod_isOver, List.forall_mem_cons.mpr ⟨mk_Mod_comesAgain, List.forall_mem_cons.mpr ⟨mk_Mod_againOf, List.forall_mem_cons.mpr ⟨mk_Mod_needOf, List.forall_mem_cons.mpr ⟨mk_Mod_rodsOf, List.forall_mem_cons.mpr ⟨mk_Mod_feetOf, List.forall_mem_cons.mpr ⟨mk_Mod_paysOf, List.forall_mem_cons.mpr ⟨mk_Mod_hasRods, List.forall_mem_cons.mpr ⟨mk_Mod_draw, List.forall_mem_cons.mpr ⟨mk_Mod_logs, List.forall_mem_cons.mpr ⟨mk_Mod_makes, List.forall_mem_cons.mpr ⟨mk_Mod_ages, List.forall_mem_cons.mpr ⟨mk_Mod_passes, List.forall_mem_cons.mpr ⟨mk_Mod_goes, List.forall_mem_cons.mpr ⟨mk_Mod_stoolsOfAll, List.forall_mem_cons.mpr ⟨mk_Mod_openOnes, List.forall_mem_cons.mpr ⟨mk_Mod_bed, List.forall_mem_cons.mpr ⟨mk_Mod_looseBy, List.forall_mem_cons.mpr ⟨mk_Mod_loose, List.forall_mem_cons.mpr ⟨mk_Mod_floatOf, List.forall_mem_cons.mpr ⟨mk_Mod_isSame, List.forall_mem_cons.mpr ⟨mk_Mod_dropOf, List.forall_mem_cons.mpr ⟨mk_Mod_blindOf, List.forall_mem_cons.mpr ⟨mk_Mod_fitOf, List.forall_mem_cons.mpr ⟨mk_Mod_changeOf, List.forall_mem_cons.mpr ⟨mk_Mod_nearest, List.forall_mem_cons.mpr ⟨mk_Mod_basket, List.forall_mem_cons.mpr ⟨mk_Mod_run, List.forall_mem_cons.mpr ⟨mk_Mod_over, List.forall_mem_cons.mpr ⟨mk_Mod_sound, List.forall_mem_cons.mpr ⟨mk_Mod_store, List.forall_mem_cons.mpr ⟨mk_Mod_hand, List.forall_mem_cons.mpr ⟨mk_Mod_order, List.forall_mem_cons.mpr ⟨mk_Mod_remembers, List.forall_mem_cons.mpr ⟨mk_Mod_sets, List.forall_mem_cons.mpr ⟨mk_Mod_years, fun _ h => nomatch h⟩⟩⟩⟩⟩⟩⟩⟩⟩⟩⟩⟩⟩⟩⟩⟩⟩⟩⟩⟩⟩⟩⟩⟩⟩⟩⟩⟩⟩⟩⟩⟩⟩⟩⟩⟩⟩⟩⟩⟩
theorem mj_blk_4_kd : ∀ q ∈ mj_bls_4, mj_kds q := List.forall_mem_cons.mpr ⟨mk_Mod_cut, List.forall_mem_cons.mpr ⟨mk_Mod_buy, List.forall_mem_cons.mpr ⟨mk_Mod_sell, List.forall_mem_cons.mpr ⟨mk_Mod_take, List.forall_mem_cons.mpr ⟨mk_Mod_drop, List.forall_mem_cons.mpr ⟨mk_Mod_drain, List.forall_mem_cons.mpr ⟨mk_Mod_hire, List.forall_mem_cons.mpr ⟨mk_Mod_teach, List.forall_mem_cons.mpr ⟨mk_Mod_make, List.forall_mem_cons.mpr ⟨mk_Mod_gainBy, List.forall_mem_cons.mpr ⟨mk_Mod_cutsOf, List.forall_mem_cons.mpr ⟨mk_Mod_gain, List.forall_mem_cons.mpr ⟨mk_Mod_cuts, List.forall_mem_cons.mpr ⟨mk_Mod_filled, List.forall_mem_cons.mpr ⟨mk_Mod_mostFilled, List.forall_mem_cons.mpr ⟨mk_Mod_worth, List.forall_mem_cons.mpr ⟨mk_Mod_fills, List.forall_mem_cons.mpr ⟨mk_Mod_packs, List.forall_mem_cons.mpr ⟨mk_Mod_rodsFor, List.forall_mem_cons.mpr ⟨mk_Mod_pieceMany, List.forall_mem_cons.mpr ⟨mk_Mod_pieces, List.forall_mem_cons.mpr ⟨mk_Mod_rod, List.forall_mem_cons.mpr ⟨mk_Mod_isWeave, List.forall_mem_cons.mpr ⟨mk_Mod_isPassed, List.forall_mem_cons.mpr ⟨mk_Mod_sees, List.forall_mem_cons.mpr ⟨mk_Mod_seenMany, List.forall_mem_cons.mpr ⟨mk_Mod_found, List.forall_mem_cons.mpr ⟨mk_Mod_look, List.forall_mem_cons.mpr ⟨mk_Mod_worksBy, List.forall_mem_cons.mpr ⟨mk_Mod_allTeams, List.forall_mem_cons.mpr ⟨mk_Mod_team, List.forall_mem_cons.mpr ⟨mk_Mod_lowest, List.forall_mem_cons.mpr ⟨mk_Mod_both, List.forall_mem_cons.mpr ⟨mk_Mod_allBest, List.forall_mem_cons.mpr ⟨mk_Mod_pairs, List.forall_mem_cons.mpr ⟨mk_Mod_change, List.forall_mem_cons.mpr ⟨mk_Mod_share, List.forall_mem_cons.mpr ⟨mk_Mod_earned, List.forall_mem_cons.mpr ⟨mk_Mod_price, List.forall_mem_cons.mpr ⟨mk_Mod_heHas, fun _ h => nomatch h⟩⟩⟩⟩⟩⟩⟩⟩⟩⟩⟩⟩⟩⟩⟩⟩⟩⟩⟩⟩⟩⟩⟩⟩⟩⟩⟩⟩⟩⟩⟩⟩⟩⟩⟩⟩⟩⟩⟩⟩
theorem mj_blk_5_kd : ∀ q ∈ mj_bls_5, mj_kds q := List.forall_mem_cons.mpr ⟨mk_Mod_riverHas, List.forall_mem_cons.mpr ⟨mk_Mod_rests, List.forall_mem_cons.mpr ⟨mk_Mod_odds, List.forall_mem_cons.mpr ⟨mk_Mod_valueOf, List.forall_mem_cons.mpr ⟨mk_Mod_most, List.forall_mem_cons.mpr ⟨mk_Mod_open, List.forall_mem_cons.mpr ⟨mk_Mod_twins, List.forall_mem_cons.mpr ⟨mk_Mod_sort, List.forall_mem_cons.mpr ⟨mk_Mod_lengths, List.forall_mem_cons.mpr ⟨mk_Mod_ahead, List.forall_mem_cons.mpr ⟨mk_Mod_trial, List.forall_mem_cons.mpr ⟨mk_Mod_span, List.forall_mem_cons.mpr ⟨mk_Mod_logged, List.forall_mem_cons.mpr ⟨mk_Mod_led, List.forall_mem_cons.mpr ⟨mk_Mod_log, List.forall_mem_cons.mpr ⟨mk_Mod_seed, List.forall_mem_cons.mpr ⟨mk_Mod_undo, List.forall_mem_cons.mpr ⟨mk_Mod_image, List.forall_mem_cons.mpr ⟨mk_Mod_back, List.forall_mem_cons.mpr ⟨mk_Mod_count, List.forall_mem_cons.mpr ⟨mk_Baskets_init, List.forall_mem_cons.mpr ⟨mk_Baskets_copy, List.forall_mem_cons.mpr ⟨mk_Baskets_beginWeave, List.forall_mem_cons.mpr ⟨mk_Baskets_addRun, List.forall_mem_cons.mpr ⟨mk_Baskets_runOf, List.forall_mem_cons.mpr ⟨mk_Baskets_passesOver, List.forall_mem_cons.mpr ⟨mk_Baskets_needOf, List.forall_mem_cons.mpr ⟨mk_Baskets_againOf, List.forall_mem_cons.mpr ⟨mk_Baskets_isAlikeAfter, List.forall_mem_cons.mpr ⟨mk_Baskets_looseOf, List.forall_mem_cons.mpr ⟨mk_Baskets_floatOf, List.forall_mem_cons.mpr ⟨mk_Baskets_dropOf, List.forall_mem_cons.mpr ⟨mk_Baskets_longestAlike, List.forall_mem_cons.mpr ⟨mk_Baskets_blindOf, List.forall_mem_cons.mpr ⟨mk_Baskets_isBlind, List.forall_mem_cons.mpr ⟨mk_Baskets_fitOf, List.forall_mem_cons.mpr ⟨mk_Baskets_bestPrice, List.forall_mem_cons.mpr ⟨mk_Baskets_buyersAt, List.forall_mem_cons.mpr ⟨mk_Beds_init, List.forall_mem_cons.mpr ⟨mk_Beds_copy, fun _ h => nomatch h⟩⟩⟩⟩⟩⟩⟩⟩⟩⟩⟩⟩⟩⟩⟩⟩⟩⟩⟩⟩⟩⟩⟩⟩⟩⟩⟩⟩⟩⟩⟩⟩⟩⟩⟩⟩⟩⟩⟩⟩
theorem mj_blk_6_kd : ∀ q ∈ mj_bls_6, mj_kds q := List.forall_mem_cons.mpr ⟨mk_Beds_add, List.forall_mem_cons.mpr ⟨mk_Beds_grow, List.forall_mem_cons.mpr ⟨mk_Beds_stoolsAhead, List.forall_mem_cons.mpr ⟨mk_Beds_partOf, List.forall_mem_cons.mpr ⟨mk_Beds_feetCut, List.forall_mem_cons.mpr ⟨mk_Beds_bestCuts, List.forall_mem_cons.mpr ⟨mk_Beds_twinPairs, List.forall_mem_cons.mpr ⟨mk_Beds_ofSort, List.forall_mem_cons.mpr ⟨mk_Hands_init, List.forall_mem_cons.mpr ⟨mk_Hands_copy, List.forall_mem_cons.mpr ⟨mk_Hands_add, List.forall_mem_cons.mpr ⟨mk_Holt_init, List.forall_mem_cons.mpr ⟨mk_Holt_copy, List.forall_mem_cons.mpr ⟨mk_Holt_earn, List.forall_mem_cons.mpr ⟨mk_Holt_passYears, List.forall_mem_cons.mpr ⟨mk_Holt_passYear, List.forall_mem_cons.mpr ⟨mk_Holt_draw, List.forall_mem_cons.mpr ⟨mk_Holt_payHands, List.forall_mem_cons.mpr ⟨mk_Holt_makeOrders, List.forall_mem_cons.mpr ⟨mk_Holt_rodsFor, List.forall_mem_cons.mpr ⟨mk_Holt_feetFor, List.forall_mem_cons.mpr ⟨mk_Holt_payFor, List.forall_mem_cons.mpr ⟨mk_Holt_canMake, List.forall_mem_cons.mpr ⟨mk_Holt_makeUp, List.forall_mem_cons.mpr ⟨mk_Holt_canMakeBits, List.forall_mem_cons.mpr ⟨mk_Holt_bestFills, List.forall_mem_cons.mpr ⟨mk_Holt_payOf, List.forall_mem_cons.mpr ⟨mk_Holt_canFill, List.forall_mem_cons.mpr ⟨mk_HoltText_read, List.forall_mem_cons.mpr ⟨mk_HoltText_readLine, List.forall_mem_cons.mpr ⟨mk_HoltText_readBed, List.forall_mem_cons.mpr ⟨mk_HoltText_readSort, List.forall_mem_cons.mpr ⟨mk_HoltText_readBasket, List.forall_mem_cons.mpr ⟨mk_HoltText_readHand, List.forall_mem_cons.mpr ⟨mk_HoltText_readOrder, List.forall_mem_cons.mpr ⟨mk_Law_init, List.forall_mem_cons.mpr ⟨mk_Law_clear, List.forall_mem_cons.mpr ⟨mk_Law_copy, List.forall_mem_cons.mpr ⟨mk_Law_emit, List.forall_mem_cons.mpr ⟨mk_Law_endLine, fun _ h => nomatch h⟩⟩⟩⟩⟩⟩⟩⟩⟩⟩⟩⟩⟩⟩⟩⟩⟩⟩⟩⟩⟩⟩⟩⟩⟩⟩⟩⟩⟩⟩⟩⟩⟩⟩⟩⟩⟩⟩⟩⟩
theorem mj_blk_7_kd : ∀ q ∈ mj_bls_7, mj_kds q := List.forall_mem_cons.mpr ⟨mk_Law_reachOf, List.forall_mem_cons.mpr ⟨mk_Law_yieldOf, List.forall_mem_cons.mpr ⟨mk_Law_costOf, List.forall_mem_cons.mpr ⟨mk_Law_sumOf, List.forall_mem_cons.mpr ⟨mk_Law_holds, List.forall_mem_cons.mpr ⟨mk_Law_reckon, List.forall_mem_cons.mpr ⟨mk_Law_valueOf, List.forall_mem_cons.mpr ⟨mk_Law_joined, List.forall_mem_cons.mpr ⟨mk_LawText_read, List.forall_mem_cons.mpr ⟨mk_LawText_readKind, List.forall_mem_cons.mpr ⟨mk_LawText_readAny, List.forall_mem_cons.mpr ⟨mk_LawText_readAll, List.forall_mem_cons.mpr ⟨mk_LawText_readAtom, List.forall_mem_cons.mpr ⟨mk_LawText_readComparison, List.forall_mem_cons.mpr ⟨mk_LawText_readSum, List.forall_mem_cons.mpr ⟨mk_LawText_readPart, List.forall_mem_cons.mpr ⟨mk_Log_init, List.forall_mem_cons.mpr ⟨mk_Log_copy, List.forall_mem_cons.mpr ⟨mk_Log_add, List.forall_mem_cons.mpr ⟨mk_Log_cellOf, List.forall_mem_cons.mpr ⟨mk_Log_isCut, List.forall_mem_cons.mpr ⟨mk_Log_cutsOf, List.forall_mem_cons.mpr ⟨mk_Log_latestCut, List.forall_mem_cons.mpr ⟨mk_Orders_init, List.forall_mem_cons.mpr ⟨mk_Orders_copy, List.forall_mem_cons.mpr ⟨mk_Orders_add, List.forall_mem_cons.mpr ⟨mk_Orders_isOpen, List.forall_mem_cons.mpr ⟨mk_Orders_shut, List.forall_mem_cons.mpr ⟨mk_Tape_init, List.forall_mem_cons.mpr ⟨mk_Tape_push, List.forall_mem_cons.mpr ⟨mk_Tape_start, List.forall_mem_cons.mpr ⟨mk_Tape_failed, List.forall_mem_cons.mpr ⟨mk_Tape_fail, List.forall_mem_cons.mpr ⟨mk_Tape_lineComes, List.forall_mem_cons.mpr ⟨mk_Tape_isSign, List.forall_mem_cons.mpr ⟨mk_Tape_takeSign, List.forall_mem_cons.mpr ⟨mk_Tape_isWord, List.forall_mem_cons.mpr ⟨mk_Tape_takeWord, List.forall_mem_cons.mpr ⟨mk_Tape_needWord, List.forall_mem_cons.mpr ⟨mk_Tape_isNumber, fun _ h => nomatch h⟩⟩⟩⟩⟩⟩⟩⟩⟩⟩⟩⟩⟩⟩⟩⟩⟩⟩⟩⟩⟩⟩⟩⟩⟩⟩⟩⟩⟩⟩⟩⟩⟩⟩⟩⟩⟩⟩⟩⟩
theorem mj_blk_8_kd : ∀ q ∈ mj_bls_8, mj_kds q := List.forall_mem_cons.mpr ⟨mk_Tape_takeNumber, List.forall_mem_cons.mpr ⟨mk_Tape_isDigit, List.forall_mem_cons.mpr ⟨mk_Tape_moveTo, List.forall_mem_cons.mpr ⟨mk_Ways_init, List.forall_mem_cons.mpr ⟨mk_Ways_takePieces, List.forall_mem_cons.mpr ⟨mk_Ways_takeSeen, List.forall_mem_cons.mpr ⟨mk_Ways_takeTelling, List.forall_mem_cons.mpr ⟨mk_Ways_beginTrying, List.forall_mem_cons.mpr ⟨mk_Ways_keepTried, List.forall_mem_cons.mpr ⟨mk_Ways_fewestRods, List.forall_mem_cons.mpr ⟨mk_Ways_tryRods, List.forall_mem_cons.mpr ⟨mk_Ways_bestTeam, List.forall_mem_cons.mpr ⟨mk_Ways_tryTeam, List.forall_mem_cons.mpr ⟨mk_Ways_bestPairs, List.forall_mem_cons.mpr ⟨mk_Ways_tryPairs, List.forall_mem_cons.mpr ⟨mk_Ways_findWeaves, List.forall_mem_cons.mpr ⟨mk_Ways_keepIfSeen, List.forall_mem_cons.mpr ⟨mk_Ways_isOver, List.forall_mem_cons.mpr ⟨mk_Ways_placeToLook, List.forall_mem_cons.mpr ⟨mk_Ways_greaterPart, List.forall_mem_cons.mpr ⟨mk_Ways_steps, List.forall_mem_cons.mpr ⟨mk_Ways_nearest, List.forall_mem_cons.mpr ⟨mk_Ways_giveBundles, List.forall_mem_cons.mpr ⟨mk_Ways_nextToGive, List.forall_mem_cons.mpr ⟨mk_Lw_holt, List.forall_mem_cons.mpr ⟨mk_Lw_law, List.forall_mem_cons.mpr ⟨mk_Lw_bed, List.forall_mem_cons.mpr ⟨mk_Lw_basket, List.forall_mem_cons.mpr ⟨mk_Lw_run, List.forall_mem_cons.mpr ⟨mk_Lw_over, List.forall_mem_cons.mpr ⟨mk_Lw_sound, List.forall_mem_cons.mpr ⟨mk_Lw_store, List.forall_mem_cons.mpr ⟨mk_Lw_hand, List.forall_mem_cons.mpr ⟨mk_Lw_order, List.forall_mem_cons.mpr ⟨mk_Lw_years, List.forall_mem_cons.mpr ⟨mk_Lw_cut, List.forall_mem_cons.mpr ⟨mk_Lw_buy, List.forall_mem_cons.mpr ⟨mk_Lw_sell, List.forall_mem_cons.mpr ⟨mk_Lw_take, List.forall_mem_cons.mpr ⟨mk_Lw_drop, fun _ h => nomatch h⟩⟩⟩⟩⟩⟩⟩⟩⟩⟩⟩⟩⟩⟩⟩⟩⟩⟩⟩⟩⟩⟩⟩⟩⟩⟩⟩⟩⟩⟩⟩⟩⟩⟩⟩⟩⟩⟩⟩⟩
theorem mj_blk_9_kd : ∀ q ∈ mj_bls_9, mj_kds q := List.forall_mem_cons.mpr ⟨mk_Lw_drain, List.forall_mem_cons.mpr ⟨mk_Lw_hire, List.forall_mem_cons.mpr ⟨mk_Lw_teach, List.forall_mem_cons.mpr ⟨mk_Lw_make, List.forall_mem_cons.mpr ⟨mk_Lw_gain, List.forall_mem_cons.mpr ⟨mk_Lw_cuts, List.forall_mem_cons.mpr ⟨mk_Lw_pieces, List.forall_mem_cons.mpr ⟨mk_Lw_rod, List.forall_mem_cons.mpr ⟨mk_Lw_found, List.forall_mem_cons.mpr ⟨mk_Lw_look, List.forall_mem_cons.mpr ⟨mk_Lw_team, List.forall_mem_cons.mpr ⟨mk_Lw_pairs, List.forall_mem_cons.mpr ⟨mk_Lw_change, List.forall_mem_cons.mpr ⟨mk_Lw_share, List.forall_mem_cons.mpr ⟨mk_Lw_price, List.forall_mem_cons.mpr ⟨mk_Lw_rests, List.forall_mem_cons.mpr ⟨mk_Lw_odds, List.forall_mem_cons.mpr ⟨mk_Lw_most, List.forall_mem_cons.mpr ⟨mk_Lw_sort, List.forall_mem_cons.mpr ⟨mk_Lw_ahead, List.forall_mem_cons.mpr ⟨mk_Lw_trial, List.forall_mem_cons.mpr ⟨mk_Lw_span, List.forall_mem_cons.mpr ⟨mk_Lw_led, List.forall_mem_cons.mpr ⟨mk_Lw_log, List.forall_mem_cons.mpr ⟨mk_Lw_lawmain, List.forall_mem_cons.mpr ⟨mk_JInt_bitCount, fun _ h => nomatch h⟩⟩⟩⟩⟩⟩⟩⟩⟩⟩⟩⟩⟩⟩⟩⟩⟩⟩⟩⟩⟩⟩⟩⟩⟩⟩
theorem mj_blk_kd (c : Nat) : ∀ q ∈ mj_blk c, mj_kds q := by
  unfold mj_blk; split
  · exact mj_blk_0_kd
  · exact mj_blk_1_kd
  · exact mj_blk_2_kd
  · exact mj_blk_3_kd
  · exact mj_blk_4_kd
  · exact mj_blk_5_kd
  · exact mj_blk_6_kd
  · exact mj_blk_7_kd
  · exact mj_blk_8_kd
  · exact mj_blk_9_kd
theorem mj_bl_kd {j pc : Nat} {b : mj_B × Nat} (hb : mj_bl j pc = some b) : ∀ z ∈ b.1, mj_kd z.2 = true := by
  unfold mj_bl at hb
  cases hl : (mj_blk (j / 131072 / 40)).lookup j with
  | none => rw [hl] at hb; cases hb
  | some l =>
    rw [hl] at hb
    exact mj_blk_kd _ _ (mj_lookup_mem hl) (pc, b) (mj_lookup_mem hb)
theorem mj_lk_j : ∀ e ∈ mj_lk, 1024 ≤ e.2.2 → e.2.2 / 32 % 32 < 15 := by decide +kernel
