/-! ===== the claim out of ONE run of the small machine ===== -/
def mj_pure : Prop := ∀ sc : Nat × (Nat → Int32), sc.1 ≤ 3072 → mj_w sc mj_tx mj_na (mj_rn sc 1300) (mj_hd j_Lw_lawmain) (mj_bl j_Lw_lawmain) (fun o _ _ => o = .inl (some (.int 1))) 0 (.ref mj_SC :: List.replicate 6 mj_U) [] [] true 601024 7293034
theorem mj_lkS_ix : ∀ q ∈ mj_lkS, mj_lkS[q.2.2]? = some q ∧ q.2.2 < 71 := by decide +kernel
theorem mj_lkS_in : ∀ q ∈ mj_lkS, Cond.stringRef (mj_cn q.1) q.2.1 (mj_tS.getD q.2.2 "") ∈ lw_tbl := by decide +kernel
theorem mj_th_in : ∀ q ∈ mj_th, Cond.stringRef (mj_cn q.1) q.2.2.2.1 q.2.2.2.2.2.2 ∈ lw_tbl := by decide +kernel
theorem mj_th_9 : ∀ q ∈ mj_th, q.1 = 9 := by decide +kernel
theorem mj_th_ex : ∀ q ∈ mj_th, Cond.exactly (.string (mj_cn 9) q.2.2.2.1) "java/lang/String" ∈ mj_fl := by decide +kernel
theorem mj_nc_in : ∀ x, x < 5 → ∀ y, y < 5 → x ≠ y → Cond.not (.castable (mj_xn x) (mj_xn y)) ∈ mj_fl := by decide +kernel
theorem mj_tl : ∀ t, t < 71 → (mj_tx t).length < 100 := by decide +kernel
theorem mj_stat1 : Cond.isRef (.static Bundle.tN "UNASSIGNED_STACK" Bundle.steD) ∈ mj_fl := by decide +kernel
theorem mj_stat2 : Cond.isRef (.static Bundle.tN "SUPPRESSED_SENTINEL" Bundle.listD) ∈ mj_fl := by decide +kernel
theorem mj_stat3 : Cond.isRef (.static "jdk/internal/util/Preconditions" "SIOOBE_FORMATTER" "Ljava/util/function/BiFunction;") ∈ mj_fl := by decide +kernel
theorem mj_stat4 : Cond.eq (.static "java/lang/String" "COMPACT_STRINGS" "Z") (.int 1) ∈ mj_fl := by decide +kernel
theorem mj_vw_lt {c : Nat} {q : vw_C} (h : vwCl[c]? = some q) : c < 11 := by
  have := (List.getElem?_eq_some_iff.mp h).1
  exact this
theorem mj_known {args : Array Value} {s : State} (hts : ∀ w ∈ lw_tbl, w.before args s = true) : ∃ D : va_G, ∀ (c : Nat) (q : vw_C), vwCl[c]? = some q → u_Kn s q.1 q.2.1 q.2.2 (D.1 c) (D.2 c) := by
  have h : ∀ c : Nat, ∃ x : ClassId × (Nat → Nat), ∀ q : vw_C, vwCl[c]? = some q → u_Kn s q.1 q.2.1 q.2.2 x.1 x.2 := by
    intro c
    by_cases hc : c < 11
    · have key : ∀ {C : String} {T : u_T} {N n : Nat}, vwCl[c]? = some (C, T, N) → (∀ w ∈ u_ws C T N, w ∈ lw_tbl) → Cond.instantiable C n ∈ lw_tbl → ∃ x : ClassId × (Nat → Nat), ∀ q : vw_C, vwCl[c]? = some q → u_Kn s q.1 q.2.1 q.2.2 x.1 x.2 := by
        intro C T N n h1 h2 h3
        obtain ⟨cC, iS, hK⟩ := u_known hts h2 (hts _ h3)
        refine ⟨(cC, iS), fun q hq => ?_⟩
        cases Option.some.inj (h1.symm.trans hq)
        exact hK
      match c, hc with
      | 0, _ => exact key rfl inX0 (mj_inst_in0 0 (by decide)).1
      | 1, _ => exact key rfl inX1 (mj_inst_in0 1 (by decide)).1
      | 2, _ => exact key rfl inX2 (mj_inst_in0 2 (by decide)).1
      | 3, _ => exact key rfl inX3 (mj_inst_in0 3 (by decide)).1
      | 4, _ => exact key rfl inX5 (mj_inst_in0 4 (by decide)).1
      | 5, _ => exact key rfl inX7 (mj_inst_in0 5 (by decide)).1
      | 6, _ => exact key rfl inX8 (mj_inst_in0 6 (by decide)).1
      | 7, _ => exact key rfl inX9 (mj_inst_in0 7 (by decide)).1
      | 8, _ => exact key rfl inX10 (mj_inst_in0 8 (by decide)).1
      | 9, _ => exact key rfl inX11 (mj_inst_in0 9 (by decide)).1
      | 10, _ => exact key rfl inX12 (mj_inst_in0 10 (by decide)).1
    · exact ⟨(0, fun _ => 0), fun q hq => absurd (mj_vw_lt hq) hc⟩
  exact ⟨(fun c => (Classical.choose (h c)).1, fun c => (Classical.choose (h c)).2), fun c q hq => Classical.choose_spec (h c) q hq⟩
theorem mj_arrs {args : Array Value} {s : State} (hts : ∀ w ∈ lw_tbl, w.before args s = true) : ∃ dA : Nat → ClassId, (∀ (k : Nat) (q : ClassId × FieldType), [(dA 0, FieldType.int), (dA 1, .boolean), (dA 2, .long), (dA 3, .object "OsierHolt$Holt")][k]? = some q → ArrOfT s q.1 q.2 ∧ va_RA s q.1 q.2) := by
  have prim : ∀ ty : FieldType, (∀ C, ty ≠ .object C) → Cond.arrayClass ty ∈ lw_tbl → ∃ c : ClassId, ArrOfT s c ty ∧ va_RA s c ty := by
    intro ty hty hm
    obtain ⟨c, k, comp, h1, h2, h3⟩ := Cond.arrayClass_spec (hts _ hm)
    refine ⟨c, fun N z => ⟨(fun k h => by cases h), k, h2, comp, h3⟩, ?_⟩
    cases ty <;> first
      | exact h1
      | exact absurd rfl (hty _)
  obtain ⟨c0, a0⟩ := prim .int (fun C h => by cases h) (by decide +kernel)
  obtain ⟨c1, a1⟩ := prim .boolean (fun C h => by cases h) (by decide +kernel)
  obtain ⟨c2, a2⟩ := prim .long (fun C h => by cases h) (by decide +kernel)
  obtain ⟨comp, c3, kA, h1, h2, h3, h4, h5⟩ := Cond.arrayOver_spec (hts (Cond.arrayOver (.object "OsierHolt$Holt")) (by decide +kernel))
  refine ⟨fun k => match k with | 0 => c0 | 1 => c1 | 2 => c2 | _ => c3, fun k q hq => ?_⟩
  match k, hq with
  | 0, hq => cases hq; exact a0
  | 1, hq => cases hq; exact a1
  | 2, hq => cases hq; exact a2
  | 3, hq => cases hq; exact ⟨fun N z => ⟨(fun k h => by cases h), kA, h3, comp, h4⟩, ⟨kA, comp, h3, h4, h1, h5⟩⟩
  | n + 4, hq => simp at hq
theorem mj_texts {args : Array Value} {s : State} (A : Nat → Prop) (hfl : ∀ c ∈ mj_fl, c.before args s = true) (hA : ∀ a : Nat, a < s.heap.size → ¬ A a) : ∃ aT vT : Nat → Nat, ∀ t, t < 71 → vk_S 1 [(mj_tx t).length] [mj_tx t] (fun _ => aT t) (fun _ => vT t) A s s.heap ∧ (mj_tm t).eval args s none [] s = some (.ref (aT t)) := by
  have h : ∀ t : Nat, ∃ q : Nat × Nat, t < 71 → vk_S 1 [(mj_tx t).length] [mj_tx t] (fun _ => q.1) (fun _ => q.2) A s s.heap ∧ (mj_tm t).eval args s none [] s = some (.ref q.1) := by
    intro t
    by_cases ht : t < 71
    · obtain ⟨w1, w2, w3, w4, w5⟩ := mj_SW_all t ht
      have hl := mj_tl t ht
      obtain ⟨aK, aV, h1, h2⟩ := vk_Sof (args := args) (s := s) (N := 1) (tm := fun _ => mj_tm t) (len := [(mj_tx t).length]) (byt := [mj_tx t]) (A := A)
        (fun i hi => by cases (show i = 0 by omega); show (mj_tx t).length < 2 ^ 31; omega)
        (fun i hi => hfl _ w1) (fun i hi => hfl _ w2) (fun i hi => hfl _ w3)
        (fun i hi => by cases (show i = 0 by omega); exact hfl _ w4)
        (fun i hi j hj => by cases (show i = 0 by omega); exact hfl _ (w5 j hj))
        (fun i j hi hj hij => absurd (show i = j by omega) hij) hA
      refine ⟨(aK 0, aV 0), fun _ => ⟨⟨fun i hi => ?_, fun i j hi hj _ => by omega⟩, h2 0 (by decide)⟩⟩
      cases (show i = 0 by omega)
      exact h1.1 0 (by decide)
    · exact ⟨(0, 0), fun z => absurd z ht⟩
  exact ⟨fun t => (Classical.choose (h t)).1, fun t => (Classical.choose (h t)).2, fun t ht => Classical.choose_spec (h t) ht⟩
theorem mj_thr_at {args : Array Value} {s : State} (hts : ∀ w ∈ lw_tbl, w.before args s = true) (hfl : ∀ c ∈ mj_fl, c.before args s = true) : ∃ sx : Nat → Nat, ∀ q ∈ mj_th, vk_R (mj_cn q.1) q.2.2.2.1 q.2.2.2.2.2.2 (sx q.2.2.2.1) s := by
  have h : ∀ k : Nat, ∃ a : Nat, (∃ q ∈ mj_th, q.2.2.2.1 = k) → (Term.string (mj_cn 9) k).eval args s none [] s = some (.ref a) := by
    intro k
    by_cases hk : ∃ q ∈ mj_th, q.2.2.2.1 = k
    · obtain ⟨q, hq, rfl⟩ := hk
      obtain ⟨a, c, cA, kA, q1, -⟩ := Cond.exactly_spec (hfl _ (mj_th_ex q hq))
      exact ⟨a, fun _ => q1⟩
    · exact ⟨0, fun z => absurd z hk⟩
  refine ⟨fun k => Classical.choose (h k), fun q hq => ?_⟩
  have h1 := Classical.choose_spec (h q.2.2.2.1) ⟨q, hq, rfl⟩
  have h2 := hts _ (mj_th_in q hq)
  rw [mj_th_9 q hq] at h2 ⊢
  exact vk_R.of h2 h1
/-- the start of the law's world -/
theorem mj_K_start {s : State} {b L : Nat} {xs : Nat → Int32} (hts : ∀ w ∈ lw_tbl, w.before #[Value.ref b] s = true) (hX : va_X b L xs s s.heap) (hb : b < s.heap.size) (hgv : (Jvm.Cond.and given_1 narrow_1).before #[Value.ref b] s = true) :
    ∃ (E : mj_E) (sx sv : Nat → Nat), mj_K E (L, xs) sx sv s s.heap ∧ E.1 = s.heap.size ∧ E.2.1 mj_SC = b := by
  have hfl : ∀ c ∈ mj_fl, c.before #[Value.ref b] s = true := flat_of_before _ hgv
  obtain ⟨D, hD⟩ := mj_known hts
  obtain ⟨dA, hdA⟩ := mj_arrs hts
  have hA : ∀ a : Nat, a < s.heap.size → ¬ (s.heap.size ≤ a) := fun a h z => absurd h (Nat.not_lt.mpr z)
  obtain ⟨aT, vT, hT⟩ := mj_texts (fun q => s.heap.size ≤ q) hfl hA
  obtain ⟨sx, hsx⟩ := mj_thr_at hts hfl
  have e1 : ∀ t, (fun k => if k < mj_SC then s.heap.size + k else if k = mj_SC then b else aT (k - (mj_SC + 1))) (mj_SC + 1 + t) = aT t := by
    intro t
    show (if mj_SC + 1 + t < mj_SC then _ else if mj_SC + 1 + t = mj_SC then b else aT (mj_SC + 1 + t - (mj_SC + 1))) = aT t
    rw [if_neg (by omega), if_neg (by omega), show mj_SC + 1 + t - (mj_SC + 1) = t by omega]
  have e2 : (fun k => if k < mj_SC then s.heap.size + k else if k = mj_SC then b else aT (k - (mj_SC + 1))) mj_SC = b := by
    show (if mj_SC < mj_SC then _ else if mj_SC = mj_SC then b else _) = b
    rw [if_neg (Nat.lt_irrefl _), if_pos rfl]
  refine ⟨(s.heap.size, (fun k => if k < mj_SC then s.heap.size + k else if k = mj_SC then b else aT (k - (mj_SC + 1))), D, dA), sx, vT, ⟨⟨⟨hD, hdA⟩, va_AO.of (hts _ (by decide +kernel))⟩, ⟨vx_Zqof (hts _ (by decide +kernel)) (hts _ (by decide +kernel)) (hfl _ mj_stat1) hA, vx_Zqof (hts _ (by decide +kernel)) (hts _ (by decide +kernel)) (hfl _ mj_stat2) hA⟩, ?_, ?_, ?_, hsx, ⟨?_, ?_, ?_⟩, ⟨?_, ?_⟩, Nat.le_refl _, ?_⟩, rfl, e2⟩
  · intro w hw
    obtain ⟨h1, h2⟩ := List.mem_filter.mp hw
    have h3 := hts w h1
    cases w <;> first
      | exact va_Nw.of rfl h3
      | cases h2
  · intro x y hx hy hxy
    exact va_Nc.of (hfl _ (mj_nc_in x hx y hy hxy))
  · intro q hq
    obtain ⟨h1, h2⟩ := mj_lkS_ix q hq
    have h3 := (hT q.2.2 h2).2
    have h4 : mj_tm q.2.2 = .string (mj_cn q.1) q.2.1 := by
      unfold mj_tm
      rw [h1]
    rw [h4] at h3
    refine vk_R.of (hts _ (mj_lkS_in q hq)) ?_
    rw [h3]
    exact congrArg (fun z => some (Value.ref z)) (e1 q.2.2).symm
  · intro t ht
    have h1 := (hT t ht).1
    refine ⟨fun i hi => ?_, fun i j hi hj _ => by omega⟩
    have h2 := h1.1 i hi
    rw [← e1 t] at h2
    exact h2
  · exact va_Zof (hts _ (by decide +kernel)) (hts _ (by decide +kernel)) (va_eqt (hfl _ mj_stat4)) hA
  · exact va_Zqof (hts _ (by decide +kernel)) (hts _ (by decide +kernel)) (hfl _ mj_stat3) hA
  · show va_X ((fun k => if k < mj_SC then s.heap.size + k else if k = mj_SC then b else aT (k - (mj_SC + 1))) mj_SC) L xs s s.heap
    rw [e2]
    exact hX
  · show (fun k => if k < mj_SC then s.heap.size + k else if k = mj_SC then b else aT (k - (mj_SC + 1))) mj_SC < s.heap.size
    rw [e2]
    exact hb
  · intro k hk
    exact if_pos hk
def lw_P (b : Addr) (xs : List Int32) (args : Array Value) (s : State) : Prop := args = #[.ref b] ∧ s.IntsAt b xs ∧ xs.length ≤ 3072 ∧ (Jvm.Cond.and given_1 narrow_1).before args s = true
def lw_Q (_ : Array Value) (s : State) (o : Outcome) (t : State) : Prop := o = .returned (some (.int 1)) ∧ Framed s o t [] 601024 7293034
def lw_Z (below : List Frame) (a : Array Value) (s : State) : State → Prop := fun t => ∃ o, t.status = .running ∧ Ended t below o ∧ lw_Q a s o t
theorem mj_end {below : List Frame} {E : mj_E} {cap : Nat} {a : Array Value} {s t : State} (hE : E.1 = s.heap.size) (h : vx_MQ below (mj_Qc E (fun o _ _ => o = .inl (some (.int 1))) cap) (mj_Xc E (fun o _ _ => o = .inl (some (.int 1))) cap) a s 601024 7293034 (mj_A E) t) : lw_Z below a s t := by
  obtain ⟨o, h1, h2, h3⟩ := h
  refine ⟨o, h1, h2, ?_⟩
  rcases h3 with ⟨⟨⟨r, hh, cl, hq, ho, -⟩, -⟩, L, ⟨hv, hW, hsame⟩, hL⟩ | ⟨q, -, X, ce, L, ⟨⟨x, hh, cl, hq, -⟩, -⟩, -⟩
  · cases hq
    refine ⟨ho, hv, hW, hsame.1, hsame.2.1, hsame.2.2.1, hsame.2.2.2.1, hsame.2.2.2.2.1, fun a c hc => ?_⟩
    obtain ⟨c', e1, e2, e3, e4⟩ := hsame.2.2.2.2.2 a c hc
    refine ⟨c', e1, e2, e3, fun i _ => e4 i fun hm => ?_⟩
    have h5 : E.1 ≤ a := hL _ hm
    have h6 : a < s.heap.size := (Array.getElem?_eq_some_iff.mp hc).1
    rw [hE] at h5
    exact absurd h6 (Nat.not_lt.mpr h5)
  · cases hq
def lw_At (p : Program) (s : State) (m : MethodId) (meth : Method) (c : Code) (b L : Nat) (xs : Nat → Int32) : Prop :=
  p.tables.exec = Jvm.exec ∧ c.code = code ∧ meth.sig.returnType = ret ∧ c.maxLocals = 7 ∧ s.vm.findClass "OsierHoltLaw" = some m.cls ∧ (∀ w ∈ lw_tbl, w.before #[Value.ref b] s = true) ∧ va_X b L xs s s.heap ∧ b < s.heap.size ∧ meth.locks = false ∧ (Jvm.Cond.and given_1 narrow_1).before #[Value.ref b] s = true ∧ (∀ x ∈ c.exceptionTable.toList, False)
set_option maxRecDepth 4000 in
theorem mj_start (hpure : mj_pure) {p : Program} {e : Env} {s : State} {m : MethodId} {below : List Frame} {meth : Method} {c : Code} (l : Launch) (hflags : l.flags = flags0) {b L : Nat} {xs : Nat → Int32} (hL : L ≤ 3072) (C0 : lw_At p s m meth c b L xs) : W p l e room_1 s m #[Value.ref b] below meth c s.heap [] 0 0 (lw_Z below #[Value.ref b] s) (entryFrame m ([Value.ref b] : List Value).toArray 7) := by
  obtain ⟨hx, hb, hr, hml, hown, hts, hX, hbl, hlk, hgv, hxt⟩ := C0
  obtain ⟨E, sx, sv, hK, hE, hEb⟩ := mj_K_start hts hX hbl hgv
  have hst : l.stackTraces = false := by
    unfold Launch.stackTraces
    rw [hflags]
    decide +kernel
  have hh : mj_hh j_Lw_lawmain = [] := by decide +kernel
  have hnl : mj_nl j_Lw_lawmain = 7 := by decide +kernel
  have hcls : j_Lw_lawmain / 32 % 32 = 13 := by decide +kernel
  have Ctx : mj_Ctx p l room_1 s m #[Value.ref b] meth c E (L, xs) sx sv (mj_nl j_Lw_lawmain) 601024 1300 j_Lw_lawmain (j_Lw_lawmain / 32 % 32) code (some .boolean) (decide ((0 : Nat) = 2)) (mj_rn (L, xs) 1300) (fun o _ _ => o = .inl (some (.int 1))) := by
    refine ⟨hx, hb, by rw [hnl]; exact hml, by rw [hcls]; exact hown, fun w hw => hts w (List.mem_filter.mp hw).1, hK, hlk, hr, fun z => absurd (of_decide_eq_true z) (by decide), ⟨?_, (mj_hh_ok _ (fun _ _ => trivial)).1, fun e he => ?_, fun z => absurd hh z⟩, hst, (by decide : (1300 : Nat) + 9 ≤ 2048), (by decide : 64 * ((1300 : Nat) + 1) + 400 ≤ 84000), by rw [hnl]; decide, (by decide : (601024 : Nat) < 2 ^ 40), mj_sound hst 1300, fun x h cl hq _ => ?_⟩
    · rw [hh]
      exact List.eq_nil_iff_forall_not_mem.mpr hxt
    · rw [hh] at he; cases he
    · cases hq; rfl
  have hI : mj_I E [] true s.heap := by
    refine ⟨(fun k q hk => by cases hk), ?_, fun _ => ?_, (fun d hd => by cases hd)⟩
    · show E.1 + 0 ≤ s.heap.size
      omega
    · show s.heap.size = E.1 + 0
      omega
  have K := mj_frame (R := room_1) (below := below) (e := e) (as := [.ref mj_SC]) (h := []) (cl := true) (dc := 601024) (ds := 7293034) me_Lw_lawmain (by rw [hnl]; decide) rfl (fun v hv => by cases List.mem_singleton.mp hv; rfl) Ctx hI (by decide) (Nat.le_refl _) (Nat.le_refl _) (by rw [hnl]; exact hpure (L, xs) hL)
  rw [hnl] at K
  have e3 : (([.ref mj_SC] : List Value).map (mj_rl E.2.1)) = [.ref b] := by
    show [Value.ref (E.2.1 mj_SC)] = _
    rw [hEb]
  rw [e3] at K
  intro T hT X
  obtain ⟨t, a1, a2⟩ := K T hT X
  exact ⟨t, a1, mj_end hE a2⟩
set_option maxHeartbeats 4000000 in
theorem lw_walk (hpure : mj_pure) (l : Launch) (hflags : l.flags = flags0) (b : Addr) (xs : List Int32) : MetFree l x (headSpec (Jvm.Cond.code x code maxLocals ret :: tables_1) room_1) (lw_P b xs) (fun _ _ _ _ _ => True) lw_Q := by
  refine MetFree.of_bodyS (code := code) (maxLocals := maxLocals) (ret := ret) (by decide) ?_ ?_
  · intro args s m h hn
    obtain ⟨meth, c, h1, h2, h3, h4, h5, h6, -, -⟩ := Cond.code_spec hn (atoms_spec (ws := Jvm.Cond.code x code maxLocals ret :: tables_1) h _ List.mem_cons_self)
    exact ⟨meth, c, h1, h2, h3, h4, h5, h6⟩
  · intro p e s m args below meth c s₁ B hml0 hP _
    obtain ⟨rfl, hx, hbd, hgv⟩ := hP
    obtain ⟨scr, harrAt, hlist, hof, hsmall⟩ := hx
    obtain ⟨hcb, hkn, -, -⟩ := State.arrayAt?_spec harrAt
    have hown : s.vm.findClass "OsierHoltLaw" = some m.cls := findClass_of_methodNamed B.named
    have hts0 : ∀ c ∈ (Jvm.Cond.code x code maxLocals ret :: tables_1), c.before #[Value.ref b] s = true := atoms_spec (ws := Jvm.Cond.code x code maxLocals ret :: tables_1) B.pre
    have hts : ∀ w ∈ lw_tbl, w.before #[Value.ref b] s = true := k2_hts_sels lw_privs (fun w hw => hts0 w (List.mem_cons_of_mem _ hw)) lw_privs_ok
    have hml : c.maxLocals = 7 := B.maxLocals_eq (hts0 _ List.mem_cons_self)
    have X₀ : Stand p l e room_1 s m #[Value.ref b] below meth c s₁ [] 0 0 := Stand.of_body B
    have hh0 : s₁.heap = s.heap := by rw [B.state]; rfl
    have hsz : scr.slots.size = xs.length := by rw [← Array.length_toList, hlist, List.length_map]
    have hval : ∀ j : Nat, j < xs.length → scr.slots[j]? = some (.int (xs.getD j 0)) := fun j hj => by
      rw [← Array.getElem?_toList, hlist]
      simp [hj]
    have hbl : b < s.heap.size := (Array.getElem?_eq_some_iff.mp hcb).1
    have hX : va_X b xs.length (fun j => xs.getD j 0) s s.heap := ⟨scr, hcb, hof, hkn, hsz, hval⟩
    have hxt : ∀ x ∈ c.exceptionTable.toList, False := by
      obtain ⟨meth9, c9, h1, h2, -, -, -, -, h7, -⟩ := Cond.code_spec B.named (hts0 _ List.mem_cons_self)
      cases Option.some.inj (h1.symm.trans B.method)
      cases Option.some.inj (h2.symm.trans X₀.code)
      intro x hx
      rw [Array.isEmpty_iff.mp h7] at hx
      cases hx
    have K : W p l e room_1 s m #[Value.ref b] below meth c s₁.heap [] 0 0 (lw_Z below #[Value.ref b] s) (entryFrame m ([Value.ref b] : List Value).toArray 7) := by
      rw [hh0]
      exact mj_start hpure l hflags hbd ⟨B.exec, B.bytes, B.returns, hml, hown, hts, hX, hbl, B.notSynchronized, hgv, hxt⟩
    obtain ⟨t, a1, o, b1, b2, b3⟩ := K s₁ rfl X₀
    exact ⟨t, o, a1, b1, b2, b3⟩
theorem lw_pre_spec {args : Array Value} {s : State} (h : (Jvm.Cond.and given_1 narrow_1).before args s = true) (hr : rest_1_c.before args s = true) : ∃ (b : Addr) (xs : List Int32), lw_P b xs args s := by
  have hs := flat_of_before _ h
  have hq := flat_of_before _ hr
  have hc : (Cond.count 1).before args s = true := hs _ (by decide +kernel)
  have harr : (Cond.arrayOf (.arg 0) .int).before args s = true := hs _ (by decide +kernel)
  have hle : (Cond.le (.length (.arg 0)) (.int 3072)).before args s = true := hs _ (by decide +kernel)
  have hlen : (Cond.isInt (.length (.arg 0))).before args s = true := hq _ (by decide +kernel)
  have hall : (Cond.all (.arg 0) (.isInt (.elem (.arg 0) (.index 0)))).before args s = true := hq _ (by decide +kernel)
  obtain ⟨b, xs, hb, hx⟩ := State.ints_of_pre rfl harr hlen hall
  have hsm : xs.length < 2 ^ 31 := hx.choose_spec.2.2.2
  have hev : (Term.length (.arg 0)).eval args s none [] s = some (.int xs.length.toInt32) := hx.length_eval hb
  have hv := Cond.le_ints hev (show (Term.int 3072).eval args s none [] s = some (.int 3072) from rfl)
  have hd : xs.length.toInt32 ≤ 3072 := by
    simpa [Cond.before, Cond.holds, hv] using hle
  have hN : xs.length ≤ 3072 := (Int32.ofNat_le_ofNat hsm (by decide)).mp (show Int32.ofNat xs.length ≤ Int32.ofNat 3072 from hd)
  exact ⟨b, xs, Cond.one_arg hc (show args[0]? = some (.ref b) from hb), hx, hN, h⟩
theorem lw_comes (hpure : mj_pure) (l : Launch) (hflags : l.flags = flags0) : Comes l x (Jvm.Cond.code x code maxLocals ret :: tables_1) room_1 (fun tb e args s => Calls_1 tb e args s ∧ rest_1 tb e args s ∧ Pre_1 tb e args s)
    (fun _ _ args s o t => lw_Q args s o t) := by
  intro p e ha hc hk s m args below hf hfit hheap happ hpre
  obtain ⟨b, xs, hP⟩ := lw_pre_spec hpre.2.2 hpre.2.1
  obtain ⟨k, o, h1, h2, h3, hQ⟩ := lw_walk hpure l hflags b xs p e ha hc hk s m args below hf ((Spec.applies_iff_loose hf).mp happ).1 hP trivial
  exact ⟨k, o, h1, h2, h3, hQ⟩
theorem lw_frame {s t : State} {o : Outcome} {args : Array Value} (h : Framed s o t [] 601024 7293034) :
    Framed s o t (fieldLocs frame_1_writes args s ++ arrayLocs frame_1_arrays args s ++ staticLocs frame_1_statics s) 601024 7293034 := h
theorem lw_limb (hpure : mj_pure) (L : Cond) (hL : ∀ (args : Array Value) (s t : State), L.after args s (.returned (some (.int 1))) t = true) :
    ArmFor flags0 classFile x code maxLocals ret World_1 tables_1 room_1 Calls_1 rest_1 Pre_1
      (fun tb e a s o t => postC L tb e a s o t ∧ Framed s o t (fieldLocs frame_1_writes a s ++ arrayLocs frame_1_arrays a s ++ staticLocs frame_1_statics s) 601024 7293034) := by
  intro l hflags _ _ p e ha hc hk s m args below hf hfit hheap happ hpre
  obtain ⟨k, o, h1, h2, h3, rfl, hF⟩ := lw_comes hpure l hflags p e ha hc hk s m args below hf hfit hheap happ hpre
  exact ⟨k, _, h1, h2, h3, hL args s _, lw_frame hF⟩
theorem mj_claim (hpure : mj_pure) : Claimed_1_1 ∧ Claimed_1_2 := ⟨lw_limb hpure limb_1_1 (fun args s t => by simp [limb_1_1, Cond.after, Cond.holds, Cond.value]), lw_limb hpure limb_1_2 (fun args s t => Cond.after_iff.mpr (by
  first | (rw [show limb_1_2 = Cond.eq .result (.int 1) from rfl, Cond.eq_ints (x := 1) (y := 1) rfl rfl]; simp; done) | (simp [limb_1_2, Cond.value, Term.eval]; done)))⟩
