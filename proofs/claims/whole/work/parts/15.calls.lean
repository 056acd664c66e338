/-! ===== calls, allocations, throws: what the tables say for the small machine's steps ===== -/
theorem mj_K_moved {E : mj_E} {sc : Nat × (Nat → Int32)} {sx sv : Nat → Nat} {s U : State} {H : Heap} (hK : mj_K E sc sx sv s H) (hW : s.WarmedH U.vm) : mj_K E sc sx sv U H := by
  obtain ⟨⟨a1, a2⟩, ⟨b1, b2⟩, c1, d1, e1, f1, ⟨g1, g2, g3⟩, ⟨h1, h2⟩, i1, j1⟩ := hK
  exact ⟨⟨va_K.moved hW.alike a1, va_AO.moved hW.alike a2⟩, ⟨vx_Zq.moved hW.alike b1, vx_Zq.moved hW.alike b2⟩, fun w hw => mj_NW_warm hw hW (c1 w hw), fun x y hx hy hxy => (d1 x y hx hy hxy).moved hW.alike, fun q hq => vk_R.warm hW (e1 q hq), fun q hq => vk_R.warm hW (f1 q hq), ⟨fun t ht => vk_S.moved hW.alike (g1 t ht), va_Z.moved hW.alike g2, va_Zq.moved hW.alike g3⟩, ⟨va_X.moved hW.alike h1, h2⟩, i1, j1⟩
theorem mj_Pc_blind {E : mj_E} {sc : Nat × (Nat → Int32)} {sx sv : Nat → Nat} {as : List Value} {h : mj_H} {cl : Bool} : FrameBlind (mj_Pc E sc sx sv as h cl) := by
  intro a U g mk hp
  obtain ⟨h1, h2, h3⟩ := hp
  exact ⟨h1, h2, mj_K_moved (U := U.calling g mk a) h3 (State.WarmedH.refl U)⟩
theorem mj_mem3 {w : Cond} {i : Nat} (h : lw_tbl[i]? = some w) (g : goodWord w = true) : w ∈ mj_G := mj_G_of (List.mem_of_getElem? h) g
theorem mj_cast_in0 : ∀ x, x < 5 → Cond.castable (mj_xn x) (mj_xn x) ∈ mj_NW := by decide +kernel
theorem mj_cast_in (x : Nat) (h : x < 5) : Cond.castable (mj_xn x) (mj_xn x) ∈ mj_NW := mj_cast_in0 x h
theorem mj_inst_in0 : ∀ ci, ci < 11 → Cond.instantiable (mj_cn ci) (mj_n ci) ∈ lw_tbl ∧ Cond.initialized (mj_cn ci) ∈ lw_tbl := by decide +kernel
theorem mj_inst_in (ci : Nat) (h : ci < 11) : Cond.instantiable (mj_cn ci) (mj_n ci) ∈ mj_G ∧ Cond.initialized (mj_cn ci) ∈ mj_G := ⟨mj_G_of (mj_inst_in0 ci h).1 rfl, mj_G_of (mj_inst_in0 ci h).2 rfl⟩
theorem mj_arr_in0 : ∀ ty ∈ [FieldType.int, .boolean, .long], Cond.arrayClass ty ∈ lw_tbl := by decide +kernel
theorem mj_arr_in (ty : FieldType) (h : ty ∈ [FieldType.int, .boolean, .long]) : Cond.arrayClass ty ∈ mj_G := mj_G_of (mj_arr_in0 ty h) rfl
theorem mj_obj_in : Cond.instanceMethod objectInit ∈ mj_G ∧ Cond.code objectInit ⟨#[0xb1]⟩ 1 none ∈ mj_G := ⟨mj_G_of (by decide +kernel) rfl, mj_G_of (by decide +kernel) rfl⟩
theorem mj_max_in : Cond.static Lib.Math.max.name ∈ mj_G ∧ Cond.initialized "java/lang/Math" ∈ mj_G ∧ Cond.code Lib.Math.max.name Lib.Math.max.code 2 (some .int) ∈ mj_G := ⟨mj_G_of (by decide +kernel) rfl, mj_G_of (by decide +kernel) rfl, mj_G_of (by decide +kernel) rfl⟩
theorem mj_min_in : Cond.static Lib.Math.min.name ∈ mj_G ∧ Cond.initialized "java/lang/Math" ∈ mj_G ∧ Cond.code Lib.Math.min.name Lib.Math.min.code 2 (some .int) ∈ mj_G := ⟨mj_G_of (by decide +kernel) rfl, mj_G_of (by decide +kernel) rfl, mj_G_of (by decide +kernel) rfl⟩
theorem mj_cpy_in : Cond.native arraycopyName ∈ mj_G ∧ Cond.static arraycopyName ∈ mj_G ∧ Cond.initialized "java/lang/System" ∈ mj_G := ⟨mj_G_of (by decide +kernel) rfl, mj_G_of (by decide +kernel) rfl, mj_G_of (by decide +kernel) rfl⟩
theorem mj_nfw : nativeFrameWords "java/lang/System" "arraycopy" 5 ≤ 100 := by decide +kernel
theorem mj_tx_lt {t : Nat} (h : mj_tx t ≠ []) : t < 71 := by
  by_cases q : t < 71
  · exact q
  · refine absurd ?_ h
    unfold mj_tx
    rw [List.getD_eq_getElem?_getD, List.getElem?_eq_none (by rw [show mj_txs.length = 71 by decide +kernel]; omega)]
    rfl
theorem mj_lkN_in0 : ∀ q ∈ mj_lkNI, Cond.methodLinkNest (mj_cn q.1.1) q.1.2.1 (mj_yn q.1.2.2) "OsierHolt" ∈ mj_NW := fun q hq => List.mem_filter.mpr ⟨List.mem_of_getElem? (mj_lkNI_ok q hq), rfl⟩
theorem mj_lkN_in (q : Nat × Nat × Nat) (hq : q ∈ mj_lkN) : Cond.methodLinkNest (mj_cn q.1) q.2.1 (mj_yn q.2.2) "OsierHolt" ∈ mj_NW := by
  obtain ⟨z, h1, rfl⟩ := List.mem_map.mp hq
  exact mj_lkN_in0 z h1
theorem mj_yn_of {k : Nat} {e : MethodName × ByteArray × Option FieldType × Bool × Nat × Nat} (g : 1024 ≤ k) (hm : mj_m k = some e) : mj_yn k = e.1 := by
  unfold mj_yn
  split <;> first | omega | (rw [hm]; rfl)
theorem mj_nl_all : ∀ c, c < 10 → ∀ q ∈ mj_mt c, mj_nl q.1 ≤ 45 := by decide +kernel
theorem mj_mt_ge {c : Nat} (h : 9 ≤ c) : mj_mt c = mj_mt 9 := by
  match c, h with
  | n + 9, _ => rfl
theorem mj_nl_45 {k : Nat} {e : MethodName × ByteArray × Option FieldType × Bool × Nat × Nat} (hm : mj_m k = some e) : mj_nl k ≤ 45 := by
  have h1 := mj_lookup_mem hm
  by_cases q : k / 131072 / 40 < 10
  · exact mj_nl_all _ q _ h1
  · rw [mj_mt_ge (by omega)] at h1
    exact mj_nl_all 9 (by decide) _ h1
theorem mj_kd_s {k : Nat} (h : mj_kd (.invokestatic k) = true) : ∃ e, mj_m k = some e ∧ mj_facts k e.1 e.2.1 e.2.2.1 0 ∧ mj_facts k e.1 e.2.1 e.2.2.1 e.2.2.2.2.1 := by
  unfold mj_kd at h
  dsimp only at h
  cases hm : mj_m k with
  | none => rw [hm] at h; cases h
  | some e =>
    rw [hm] at h
    simp only [Bool.and_eq_true, beq_iff_eq, bne_iff_ne] at h
    have this0 := mj_m_facts hm h.2
    have this := this0
    rw [h.1] at this
    exact ⟨e, rfl, this, this0⟩
theorem mj_kd_v {k : Nat} (h : mj_kd (.invokevirtual k) = true) : ∃ e, mj_m k = some e ∧ mj_facts k e.1 e.2.1 e.2.2.1 1 ∧ mj_facts k e.1 e.2.1 e.2.2.1 e.2.2.2.2.1 := by
  unfold mj_kd at h
  dsimp only at h
  cases hm : mj_m k with
  | none => rw [hm] at h; cases h
  | some e =>
    rw [hm] at h
    simp only [beq_iff_eq] at h
    have hne : k ≠ j_Lw_lawmain := by
      intro q
      rw [q, me_Lw_lawmain] at hm
      cases hm
      cases h
    have this0 := mj_m_facts hm hne
    have this := this0
    rw [h] at this
    exact ⟨e, rfl, this, this0⟩
theorem mj_init_0 {k : Nat} {e : MethodName × ByteArray × Option FieldType × Bool × Nat × Nat} (hm : mj_m k = some e) (h2 : e.2.2.2.2.1 = 2) : k % 32 = 0 := by
  have h1 := mj_lookup_mem hm
  by_cases q : k / 131072 / 40 < 10
  · exact mj_init0 _ q _ h1 h2
  · rw [mj_mt_ge (by omega)] at h1
    exact mj_init0 9 (by decide) _ h1 h2
theorem mj_kd_i {k : Nat} (h : mj_kd (.invokespecial k) = true) : ∃ e, mj_m k = some e ∧ mj_facts k e.1 e.2.1 e.2.2.1 2 ∧ k % 32 = 0 ∧ mj_facts k e.1 e.2.1 e.2.2.1 e.2.2.2.2.1 := by
  unfold mj_kd at h
  dsimp only at h
  cases hm : mj_m k with
  | none => rw [hm] at h; cases h
  | some e =>
    rw [hm] at h
    simp only [beq_iff_eq] at h
    have hne : k ≠ j_Lw_lawmain := by
      intro q
      rw [q, me_Lw_lawmain] at hm
      cases hm
      cases h
    have this0 := mj_m_facts hm hne
    have this := this0
    rw [h] at this
    exact ⟨e, rfl, this, mj_init_0 hm h, this0⟩
set_option maxRecDepth 100000 in
theorem mj_lo {z d L : Nat} (h45 : z ≤ 45) (hRl : 64 * (d + 1) + 400 ≤ L) : 8 + (z + 11) + (64 * d + 400) ≤ L := by omega
theorem mj_wj_code {k kind : Nat} {e : MethodName × ByteArray × Option FieldType × Bool × Nat × Nat} (hm : mj_m k = some e) (hf : mj_facts k e.1 e.2.1 e.2.2.1 kind) (hh : mj_hh k = []) : mj_wj k = Cond.code e.1 e.2.1 (mj_nl k) e.2.2.1 :: mj_G ∧ Cond.code e.1 e.2.1 (mj_nl k) e.2.2.1 ∈ mj_G := by
  unfold mj_wj
  rw [hm]
  exact ⟨by dsimp only; rw [if_pos hh], mj_G_of (hf.2.1 hh) rfl⟩
theorem mj_wj_with {k kind : Nat} {e : MethodName × ByteArray × Option FieldType × Bool × Nat × Nat} (hm : mj_m k = some e) (hf : mj_facts k e.1 e.2.1 e.2.2.1 kind) (hh : mj_hh k ≠ []) : mj_wj k = Cond.codeWith e.1 e.2.1 (mj_nl k) e.2.2.1 (mj_hh k) :: mj_G ∧ Cond.codeWith e.1 e.2.1 (mj_nl k) e.2.2.1 (mj_hh k) ∈ mj_G := by
  unfold mj_wj
  rw [hm]
  exact ⟨by dsimp only; rw [if_neg hh], mj_G_of (hf.2.2.1 hh).1 rfl⟩
theorem mj_wj_pay {w0 : Cond} (h0 : w0 ∈ mj_G) {args : Array Value} {s : State} (hts : ∀ w ∈ mj_G, w.before args s = true) : ∀ w ∈ w0 :: mj_G, ∀ (a' : Array Value) (U : State), s.WarmedH U.vm → w.before a' U = true := by
  refine pay_in hts fun w hw => ?_
  rcases List.mem_cons.mp hw with rfl | hw
  · exact mj_G_good _ h0
  · exact mj_G_good _ hw
section MJC
variable {p : Program} {l : Launch} {e : Env} {R : Room} {s : State} {m : MethodId} {args : Array Value} {below : List Frame} {meth : Method} {c : Code}
variable {E : mj_E} {sc : Nat × (Nat → Int32)} {sx sv : Nat → Nat} {n : Nat} {cc : ByteArray} {own ix k d dc ds cells slots pc : Nat} {H : Heap} {locs : List Loc} {h : mj_H} {cl : Bool} {ls : Array Slot} {rest : List Value} {Qc : Array Value → State → Outcome → State → Prop} {Xc : String → State → State → Prop}
variable {e9 : MethodName × ByteArray × Option FieldType × Bool × Nat × Nat}
theorem mj_pre {as : List Value} (hI : mj_I E h cl H) (hS : va_S (mj_A E) s.heap H locs) (hK : mj_K E sc sx sv s s.heap) : ∀ U : State, U.heap = H → s.WarmedH U.vm → mj_Pc E sc sx sv as h cl (as.map (mj_rl E.2.1)).toArray U :=
  fun U hU hW => ⟨rfl, by rw [hU]; exact hI, by rw [hU]; exact mj_K_warm hK hS hW⟩
theorem mj_sig {y : MethodName} {j : Nat} (h : (parseMethodDescriptor y.desc).map (fun d => d.parameters.length) = some j) : ∀ sig, parseMethodDescriptor y.desc = some sig → j = sig.parameters.length := by
  intro sig hs
  rw [hs] at h
  exact (Option.some.inj h).symm
theorem mj_run_s {as : List Value} (hx : p.tables.exec = Jvm.exec) (hb : c.code = cc) (hml : c.maxLocals = n) (hown : s.vm.findClass (mj_cn own) = some m.cls) (hts : ∀ w ∈ mj_G, w.before args s = true) (hm : mj_m k = some e9) (hf : mj_facts k e9.1 e9.2.1 e9.2.2.1 0) (hlnk : (Cond.methodLink (mj_cn own) ix e9.1).before args s = true)
    (hCon : vx_Met l e9.1 (mj_wj k) (mj_rm d dc ds) (mj_Pc E sc sx sv as h cl) Qc Xc dc ds (mj_A E)) (hI : mj_I E h cl H) (hS : va_S (mj_A E) s.heap H locs) (hK : mj_K E sc sx sv s s.heap) (hn : as.length = (mj_na k).2) (hsz : ls.size = n) (hcat : (rest.map fun v => v.category).sum ≤ 8)
    (hdc : decode cc pc = .ok (.invokestatic ix, 3)) (hRf : d + 9 ≤ R.frames) (hRl : 64 * (d + 1) + 400 ≤ R.locals) (hc : cells + dc ≤ R.cells) (hs : slots + ds ≤ R.slots) :
    vx_Run p l e R s m args below meth c H locs cells slots dc ds (F0 m pc ls ((as.map (mj_rl E.2.1)).reverse ++ rest)) rest (Qc (as.map (mj_rl E.2.1)).toArray) Xc (mj_A E) := by
  have h45 := mj_nl_45 hm
  obtain ⟨f1, f2, f3, f4, f5, f6, f7, f8⟩ := hf
  have hstat := hts _ (mj_G_of (f4 rfl) rfl)
  have hini := hts _ (mj_G_of f1.1 rfl)
  have hlo : 8 + (mj_nl k + 11) + (mj_rm d dc ds).locals ≤ R.locals := mj_lo h45 hRl
  have hfr : (mj_rm d dc ds).frames + 1 ≤ R.frames := by unfold mj_rm; dsimp only; omega
  have hW : 2 * (F0 m pc ls ((as.map (mj_rl E.2.1)).reverse ++ rest)).monitorRoom + (rest.map fun v => v.category).sum ≤ 8 := by show 2 * 0 + _ ≤ _; omega
  by_cases hh : mj_hh k = []
  · obtain ⟨w1, w2⟩ := mj_wj_code hm ⟨f1, f2, f3, f4, f5, f6, f7, f8⟩ hh
    rw [w1] at hCon
    exact vx_runS ⟨hx, hb, hml, hown, hts⟩ hCon ⟨⟨rfl, rfl, hfr, hlo, mj_wj_pay w2 hts, List.mem_cons_self, hts _ w2, hini, ⟨f1.2.2.2.1, f1.2.2.2.2.1⟩, mj_sig f1.2.2.2.2.2, hlnk⟩, hstat⟩ ⟨mj_Pc_blind, mj_pre hI hS hK⟩ rfl (by rw [List.length_map, hn]; rfl) hsz rfl hW hdc ⟨hc, hs⟩
  · obtain ⟨w1, w2⟩ := mj_wj_with hm ⟨f1, f2, f3, f4, f5, f6, f7, f8⟩ hh
    rw [w1] at hCon
    exact vx_runSX (hh := mj_hh k) ⟨hx, hb, hml, hown, hts⟩ hCon ⟨⟨rfl, rfl, hfr, hlo, mj_wj_pay w2 hts, List.mem_cons_self⟩, hts _ w2, hini, ⟨f1.2.2.2.1, f1.2.2.2.2.1⟩, mj_sig f1.2.2.2.2.2, hlnk, hstat⟩ ⟨mj_Pc_blind, mj_pre hI hS hK⟩ rfl (by rw [List.length_map, hn]; rfl) hsz rfl hW hdc ⟨hc, hs⟩
theorem mj_run_v {as : List Value} {a : Nat} {fs : List Value} (hx : p.tables.exec = Jvm.exec) (hb : c.code = cc) (hml : c.maxLocals = n) (hown : s.vm.findClass (mj_cn own) = some m.cls) (hts : ∀ w ∈ mj_G, w.before args s = true) (hm : mj_m k = some e9) (hf : mj_facts k e9.1 e9.2.1 e9.2.2.1 1) (hlnk : (Cond.methodLink (mj_cn own) ix e9.1).before args s = true)
    (hCon : vx_Met l e9.1 (mj_wj k) (mj_rm d dc ds) (mj_Pc E sc sx sv (.ref a :: as) h cl) Qc Xc dc ds (mj_A E)) (hI : mj_I E h cl H) (hS : va_S (mj_A E) s.heap H locs) (hK : mj_K E sc sx sv s s.heap) (hn : as.length = (mj_na k).2) (ha : h[a]? = some (.inr ((mj_na k).1, fs))) (had : E.2.1 a = E.1 + a) (hsz : ls.size = n) (hcat : (rest.map fun v => v.category).sum ≤ 8)
    (hdc : decode cc pc = .ok (.invokevirtual ix, 3)) (hRf : d + 9 ≤ R.frames) (hRl : 64 * (d + 1) + 400 ≤ R.locals) (hc : cells + dc ≤ R.cells) (hs : slots + ds ≤ R.slots) :
    vx_Run p l e R s m args below meth c H locs cells slots dc ds (F0 m pc ls ((as.map (mj_rl E.2.1)).reverse ++ .ref (E.2.1 a) :: rest)) rest (Qc (Value.ref (E.2.1 a) :: as.map (mj_rl E.2.1)).toArray) Xc (mj_A E) := by
  have h45 := mj_nl_45 hm
  obtain ⟨f1, f2, f3, f4, f5, f6, f7, f8⟩ := hf
  have hins := hts _ (mj_G_of (f5 (by decide)) rfl)
  have hsel := hts _ (mj_G_of (f6 rfl) rfl)
  have hini := hts _ (mj_G_of f1.1 rfl)
  have hlo : 8 + (mj_nl k + 11) + (mj_rm d dc ds).locals ≤ R.locals := mj_lo h45 hRl
  have hfr : (mj_rm d dc ds).frames + 1 ≤ R.frames := by unfold mj_rm; dsimp only; omega
  have hW : 2 * (F0 m pc ls ((as.map (mj_rl E.2.1)).reverse ++ .ref (E.2.1 a) :: rest)).monitorRoom + (rest.map fun v => v.category).sum ≤ 8 := by show 2 * 0 + _ ≤ _; omega
  have hh : mj_hh k = [] := by
    by_cases q : mj_hh k = []
    · exact q
    · have := (f3 q).2; cases this
  obtain ⟨w1, w2⟩ := mj_wj_code hm ⟨f1, f2, f3, f4, f5, f6, f7, f8⟩ hh
  rw [w1] at hCon
  have he := mj_ws_at (E := E) ha
  obtain ⟨r, h1, cell, q1, q2, q3, q4⟩ := hI.1 a _ he
  have hci : (mj_na k).1 < 11 := (List.getElem?_eq_some_iff.mp h1).1
  have hr : r = (mj_cn (mj_na k).1, mj_T (mj_na k).1, mj_n (mj_na k).1) := Option.some.inj (h1.symm.trans (mj_vw hci))
  subst hr
  have hfc : s.vm.findClass e9.1.cls = some (E.2.2.1.1 (mj_na k).1) := by
    rw [f1.2.2.1]
    exact (hK.1.1.1 _ _ (mj_vw hci)).2.1
  refine vx_runV (C := e9.1.cls) (b := E.2.1 a) (As := as.map (mj_rl E.2.1)) ⟨hx, hb, hml, hown, hts⟩ hCon ⟨⟨rfl, rfl, hfr, hlo, mj_wj_pay w2 hts, List.mem_cons_self, hts _ w2, hini, ⟨f1.2.2.2.1, f1.2.2.2.2.1⟩, mj_sig f1.2.2.2.2.2, hlnk⟩, hins, hsel⟩ ⟨mj_Pc_blind, ⟨cell, by rw [had]; exact q1, by rw [q3]; rfl, by rw [hfc, q2]⟩, mj_pre (as := .ref a :: as) hI hS hK⟩ rfl (by rw [List.length_map, hn]; rfl) hsz rfl hW hdc ⟨hc, hs⟩
theorem mj_run_i {a : Nat} (hx : p.tables.exec = Jvm.exec) (hb : c.code = cc) (hml : c.maxLocals = n) (hown : s.vm.findClass (mj_cn own) = some m.cls) (hts : ∀ w ∈ mj_G, w.before args s = true) (hm : mj_m k = some e9) (hf : mj_facts k e9.1 e9.2.1 e9.2.2.1 2) (hlnk : (Cond.methodLink (mj_cn own) ix e9.1).before args s = true)
    (hCon : vx_Met l e9.1 (mj_wj k) (mj_rm d dc ds) (mj_Pc E sc sx sv [.ref a] h cl) Qc Xc dc ds (mj_A E)) (hI : mj_I E h cl H) (hS : va_S (mj_A E) s.heap H locs) (hK : mj_K E sc sx sv s s.heap) (hn : k % 32 = 0) (hsz : ls.size = n) (hcat : (rest.map fun v => v.category).sum ≤ 8)
    (hdc : decode cc pc = .ok (.invokespecial ix, 3)) (hRf : d + 9 ≤ R.frames) (hRl : 64 * (d + 1) + 400 ≤ R.locals) (hc : cells + dc ≤ R.cells) (hs : slots + ds ≤ R.slots) :
    vx_Run p l e R s m args below meth c H locs cells slots dc ds (F0 m pc ls (.ref (E.2.1 a) :: rest)) rest (Qc #[Value.ref (E.2.1 a)]) Xc (mj_A E) := by
  have h45 := mj_nl_45 hm
  obtain ⟨f1, f2, f3, f4, f5, f6, f7, f8⟩ := hf
  have hins := hts _ (mj_G_of (f5 (by decide)) rfl)
  have hini := hts _ (mj_G_of f1.1 rfl)
  have hlo : 8 + (mj_nl k + 11) + (mj_rm d dc ds).locals ≤ R.locals := mj_lo h45 hRl
  have hfr : (mj_rm d dc ds).frames + 1 ≤ R.frames := by unfold mj_rm; dsimp only; omega
  have hW : 2 * (F0 m pc ls (.ref (E.2.1 a) :: rest)).monitorRoom + (rest.map fun v => v.category).sum ≤ 8 := by show 2 * 0 + _ ≤ _; omega
  have hh : mj_hh k = [] := by
    by_cases q : mj_hh k = []
    · exact q
    · have := (f3 q).2; cases this
  obtain ⟨w1, w2⟩ := mj_wj_code hm ⟨f1, f2, f3, f4, f5, f6, f7, f8⟩ hh
  rw [w1] at hCon
  obtain ⟨f71, f72⟩ := f7 rfl
  rw [f72] at hCon w2
  exact vx_runI (b := E.2.1 a) (As := []) ⟨hx, hb, hml, hown, hts⟩ hCon ⟨⟨rfl, rfl, hfr, hlo, mj_wj_pay w2 hts, List.mem_cons_self, hts _ w2, hini, ⟨f1.2.2.2.1, f1.2.2.2.2.1⟩, mj_sig f1.2.2.2.2.2, hlnk⟩, f71, hins⟩ ⟨mj_Pc_blind, mj_pre (as := [.ref a]) hI hS hK⟩ rfl hn.symm hsz rfl hW hdc ⟨hc, hs⟩
theorem mj_run_in {a : Nat} (hx : p.tables.exec = Jvm.exec) (hb : c.code = cc) (hml : c.maxLocals = n) (hown : s.vm.findClass (mj_cn own) = some m.cls) (hts : ∀ w ∈ mj_G, w.before args s = true) (hm : mj_m k = some e9) (hf : mj_facts k e9.1 e9.2.1 e9.2.2.1 2) (hlnk : va_Nw (Cond.methodLinkNest (mj_cn own) ix e9.1 "OsierHolt") s)
    (hCon : vx_Met l e9.1 (mj_wj k) (mj_rm d dc ds) (mj_Pc E sc sx sv [.ref a] h cl) Qc Xc dc ds (mj_A E)) (hI : mj_I E h cl H) (hS : va_S (mj_A E) s.heap H locs) (hK : mj_K E sc sx sv s s.heap) (hn : k % 32 = 0) (hsz : ls.size = n) (hcat : (rest.map fun v => v.category).sum ≤ 8)
    (hdc : decode cc pc = .ok (.invokespecial ix, 3)) (hRf : d + 9 ≤ R.frames) (hRl : 64 * (d + 1) + 400 ≤ R.locals) (hc : cells + dc ≤ R.cells) (hs : slots + ds ≤ R.slots) :
    vx_Run p l e R s m args below meth c H locs cells slots dc ds (F0 m pc ls (.ref (E.2.1 a) :: rest)) rest (Qc #[Value.ref (E.2.1 a)]) Xc (mj_A E) := by
  have h45 := mj_nl_45 hm
  obtain ⟨f1, f2, f3, f4, f5, f6, f7, f8⟩ := hf
  have hins := hts _ (mj_G_of (f5 (by decide)) rfl)
  have hini := hts _ (mj_G_of f1.1 rfl)
  have hlo : 8 + (mj_nl k + 11) + (mj_rm d dc ds).locals ≤ R.locals := mj_lo h45 hRl
  have hfr : (mj_rm d dc ds).frames + 1 ≤ R.frames := by unfold mj_rm; dsimp only; omega
  have hW : 2 * (F0 m pc ls (.ref (E.2.1 a) :: rest)).monitorRoom + (rest.map fun v => v.category).sum ≤ 8 := by show 2 * 0 + _ ≤ _; omega
  have hh : mj_hh k = [] := by
    by_cases q : mj_hh k = []
    · exact q
    · have := (f3 q).2; cases this
  obtain ⟨w1, w2⟩ := mj_wj_code hm ⟨f1, f2, f3, f4, f5, f6, f7, f8⟩ hh
  rw [w1] at hCon
  obtain ⟨f71, f72⟩ := f7 rfl
  rw [f72] at hCon w2
  exact vx_runIN (host := "OsierHolt") (b := E.2.1 a) (As := []) ⟨hx, hb, hml, hown, hts⟩ hCon ⟨⟨⟨rfl, rfl, hfr, hlo, mj_wj_pay w2 hts, List.mem_cons_self⟩, hts _ w2, hini, ⟨f1.2.2.2.1, f1.2.2.2.2.1⟩, mj_sig f1.2.2.2.2.2, va_Nw.use rfl hlnk⟩, f71, hins⟩ ⟨mj_Pc_blind, mj_pre (as := [.ref a]) hI hS hK⟩ rfl hn.symm hsz rfl hW hdc ⟨hc, hs⟩
end MJC
