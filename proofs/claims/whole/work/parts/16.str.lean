/-! ===== String.length and charAt of the texts ===== -/
def RK1 : String := "java/lang/StringLatin1"
def RK3 : String := "jdk/internal/util/Preconditions"
def yK1_charAt : MethodName := ⟨RK1, "charAt", "([BI)C"⟩
def yK3_checkIndex : MethodName := ⟨RK3, "checkIndex", "(IILjava/util/function/BiFunction;)I"⟩
abbrev cK1_charAt : ByteArray := prog_26_method_2_code
abbrev cK3_checkIndex : ByteArray := prog_34_method_11_code
theorem mj_sw : ∀ w ∈ [Cond.code yJ0_length_8abf5 cJ0_length_8abf5 1 (some .int), Cond.code yJ0_charAt_5068e cJ0_charAt_5068e 2 (some .char), Cond.code yJ0_coder_7d493 cJ0_coder_7d493 1 (some .byte), Cond.code yJ0_isLatin1_aae02 cJ0_isLatin1_aae02 1 (some .boolean), Cond.code yJ0_checkIndex_df160 cJ0_checkIndex_df160 2 none, Cond.code yK1_charAt cK1_charAt 2 (some .char), Cond.code yK3_checkIndex cK3_checkIndex 3 (some .int),
    Cond.instanceMethod yJ0_length_8abf5, Cond.instanceMethod yJ0_charAt_5068e, Cond.instanceMethod yJ0_coder_7d493, Cond.instanceMethod yJ0_isLatin1_aae02, Cond.static yJ0_checkIndex_df160, Cond.static yK1_charAt, Cond.static yK3_checkIndex,
    Cond.selects RJ0 yJ0_length_8abf5 yJ0_length_8abf5, Cond.selects RJ0 yJ0_charAt_5068e yJ0_charAt_5068e, Cond.selects RJ0 yJ0_coder_7d493 yJ0_coder_7d493, Cond.selects RJ0 yJ0_isLatin1_aae02 yJ0_isLatin1_aae02, Cond.initialized RJ0, Cond.initialized RK1, Cond.initialized RK3,
    Cond.fieldLink RJ0 9 "java/lang/String" "value" "[B", Cond.fieldLink RJ0 15 "java/lang/String" "coder" "B", Cond.fieldLink RJ0 38 "java/lang/String" "COMPACT_STRINGS" "Z", Cond.fieldLink RJ0 1053 RK3 "SIOOBE_FORMATTER" "Ljava/util/function/BiFunction;",
    Cond.methodLink RJ0 335 yJ0_coder_7d493, Cond.methodLink RJ0 492 yJ0_isLatin1_aae02, Cond.methodLink RJ0 495 yK1_charAt, Cond.methodLink RK1 9 yJ0_checkIndex_df160, Cond.methodLink RJ0 1059 yK3_checkIndex], w ∈ lw_tbl := by decide +kernel
theorem mj_sw_G {w : Cond} (h : w ∈ lw_tbl) (g : goodWord w = true := by rfl) : w ∈ mj_G := mj_G_of h g
/-- what a text's methods know -/
def mj_SK (A : Nat → Prop) (t a v : Nat) (U : State) (H : Heap) : Prop := vk_S 1 [(mj_tx t).length] [mj_tx t] (fun _ => a) (fun _ => v) A U H ∧ va_Z "java/lang/String" "COMPACT_STRINGS" "Z" (.int 1) A U H ∧ va_Zq RK3 "SIOOBE_FORMATTER" "Ljava/util/function/BiFunction;" A U H
theorem mj_SK_moved {A : Nat → Prop} {t a v : Nat} {s U : State} {H : Heap} (hW : s.WarmedH U.vm) (h : mj_SK A t a v s H) : mj_SK A t a v U H := ⟨vk_S.moved hW.alike h.1, va_Z.moved hW.alike h.2.1, va_Zq.moved hW.alike h.2.2⟩
def mj_rS (d : Nat) : Room := { frames := d, cells := 0, slots := 0, locals := 40 * d }
def mj_PS (A : Nat → Prop) (t a v : Nat) (av : List Value) : Array Value → State → Prop := va_Pc av (fun U => mj_SK A t a v U U.heap)
theorem mj_PS_blind {A : Nat → Prop} {t a v : Nat} {av : List Value} : FrameBlind (mj_PS A t a v av) := fun x U g mk h => ⟨h.1, mj_SK_moved (U := U.calling g mk x) (State.WarmedH.refl U) h.2⟩
def mj_RO (r : Option Value) : Array Value → State → Outcome → State → Prop := fun _ st oc t => oc = .returned r ∧ t.heap = st.heap
section MJT
variable {p : Program} {l : Launch} {e : Env} {R : Room} {s : State} {m : MethodId} {args : Array Value} {below : List Frame} {meth : Method} {c : Code} {H : Heap} {cells slots : Nat} {Q : State → Prop} {locs : List Loc}
variable {cc : ByteArray} {pc : Nat} {ls : Array Slot} {rest st0 : List Value} {A : Nat → Prop} {t a v : Nat}
theorem mj_callRO {r : Option Value} {x : Array Value} (hr : va_Run p l e R s m args below meth c H locs cells slots 0 0 (F0 m pc ls st0) rest (mj_RO r x) (fun _ => False)) (kk : W p l e R s m args below meth c H locs cells slots Q (F0 m (pc + 3) ls (r.toList ++ rest))) : W p l e R s m args below meth c H locs cells slots Q (F0 m pc ls st0) := by
  intro T hT X
  obtain ⟨v, st₀, t, T', L, h0, X', hL, e1, e2, ⟨hq1, hq2⟩, st⟩ := hr T hT X
  cases hq1
  have hL0 : L = [] := List.eq_nil_iff_forall_not_mem.mpr hL
  subst hL0
  rw [List.append_nil] at X'
  obtain ⟨t2, a1, b1⟩ := kk T' (by rw [e1, hq2, h0]) X'
  exact ⟨t2, st t2 a1, b1⟩
theorem mj_wS_pay {w0 : Cond} (h0 : w0 ∈ mj_G) (hts : ∀ w ∈ mj_G, w.before args s = true) : ∀ w ∈ w0 :: mj_G, ∀ (a' : Array Value) (U : State), s.WarmedH U.vm → w.before a' U = true := mj_wj_pay h0 hts
theorem mj_atoms {w0 : Cond} {ws : List Cond} (h : ∀ w ∈ w0 :: ws, w.before args s = true) : ∀ w ∈ ws, w.before args s = true := fun w hw => h w (List.mem_cons_of_mem _ hw)
end MJT
set_option maxHeartbeats 1000000 in
theorem mj_coder (l : Launch) (A : Nat → Prop) (t a v : Nat) : Met l yJ0_coder_7d493 (Cond.code yJ0_coder_7d493 cJ0_coder_7d493 1 (some .byte) :: mj_G) (mj_rS 1) (mj_PS A t a v [.ref a]) (mj_RO (some (.int 0))) 0 0 (fun _ => False) := by
  refine Met.ofW (cc := cJ0_coder_7d493) (maxL := 1) (ret := some .byte) (by decide) rfl ?_
  intro p e s m args below meth c s₁ B hml hv
  obtain ⟨rfl, hK⟩ := hv
  have hx := B.exec
  have hb := B.bytes
  have hr := B.returns
  have hts := mj_atoms (atoms_spec (ws := Cond.code yJ0_coder_7d493 cJ0_coder_7d493 1 (some .byte) :: mj_G) B.pre)
  have hown : s.vm.findClass RJ0 = some m.cls := findClass_of_methodNamed B.named
  have hlocks := B.notSynchronized
  have hS : va_S A s.heap s.heap [] := va_S.rf
  have hl := lv_entry ([.ref a]) (n := 1) (Nat.le_of_ble_eq_true rfl)
  rw [lg_entry_eq]
  generalize (lg_sl ([.ref a]) ++ List.replicate (1 - (lg_sl ([.ref a])).length) Slot.unset).toArray = ls at hl ⊢
  have hl : lv_has ls 1 [(0, .ref a)] := hl
  refine va_gets hx hb hK.2.1 hS hown (hts _ (mj_sw_G (mj_sw (.fieldLink RJ0 38 "java/lang/String" "COMPACT_STRINGS" "Z") (by simp)))) (fun _ h => h) (show decode cJ0_coder_7d493 0 = .ok (.getstatic 38, 3) by decide +kernel) ?_
  refine lv_if_eq (tgt := 13) hx hb (show decode cJ0_coder_7d493 3 = .ok (.ifCond .eq 10, 3) by decide +kernel) (by decide) (fun q => absurd q (by decide)) (fun _ => ?_)
  refine lv_aload_n hx hb (show decode cJ0_coder_7d493 6 = .ok (.aload_n 0, 1) by decide +kernel) rfl (lv_at hl 0 rfl) ?_
  refine vk_getf hx hb (hK.1.1 0 (by decide)).2.1 hS hown (hts _ (mj_sw_G (mj_sw (.fieldLink RJ0 15 "java/lang/String" "coder" "B") (by simp)))) (fun _ h => h) (show decode cJ0_coder_7d493 7 = .ok (.getfield 15, 3) by decide +kernel) ?_
  refine lv_goto (tgt := 14) hx hb (show decode cJ0_coder_7d493 10 = .ok (.goto 4, 3) by decide +kernel) (by decide) ?_
  exact W.zret hx hb hr rfl (fun t ht _ => ⟨rfl, ht⟩) (fun q h => by cases h) (show decode cJ0_coder_7d493 14 = .ok (.ireturn, 1) by decide +kernel)
set_option maxHeartbeats 1000000 in
theorem mj_isLatin1 (l : Launch) (A : Nat → Prop) (t a v : Nat) : Met l yJ0_isLatin1_aae02 (Cond.code yJ0_isLatin1_aae02 cJ0_isLatin1_aae02 1 (some .boolean) :: mj_G) (mj_rS 1) (mj_PS A t a v [.ref a]) (mj_RO (some (.int 1))) 0 0 (fun _ => False) := by
  refine Met.ofW (cc := cJ0_isLatin1_aae02) (maxL := 1) (ret := some .boolean) (by decide) rfl ?_
  intro p e s m args below meth c s₁ B hml hv
  obtain ⟨rfl, hK⟩ := hv
  have hx := B.exec
  have hb := B.bytes
  have hr := B.returns
  have hts := mj_atoms (atoms_spec (ws := Cond.code yJ0_isLatin1_aae02 cJ0_isLatin1_aae02 1 (some .boolean) :: mj_G) B.pre)
  have hown : s.vm.findClass RJ0 = some m.cls := findClass_of_methodNamed B.named
  have hlocks := B.notSynchronized
  have hS : va_S A s.heap s.heap [] := va_S.rf
  have hl := lv_entry ([.ref a]) (n := 1) (Nat.le_of_ble_eq_true rfl)
  rw [lg_entry_eq]
  generalize (lg_sl ([.ref a]) ++ List.replicate (1 - (lg_sl ([.ref a])).length) Slot.unset).toArray = ls at hl ⊢
  have hl : lv_has ls 1 [(0, .ref a)] := hl
  refine va_gets hx hb hK.2.1 hS hown (hts _ (mj_sw_G (mj_sw (.fieldLink RJ0 38 "java/lang/String" "COMPACT_STRINGS" "Z") (by simp)))) (fun _ h => h) (show decode cJ0_isLatin1_aae02 0 = .ok (.getstatic 38, 3) by decide +kernel) ?_
  refine lv_if_eq (tgt := 17) hx hb (show decode cJ0_isLatin1_aae02 3 = .ok (.ifCond .eq 14, 3) by decide +kernel) (by decide) (fun q => absurd q (by decide)) (fun _ => ?_)
  refine lv_aload_n hx hb (show decode cJ0_isLatin1_aae02 6 = .ok (.aload_n 0, 1) by decide +kernel) rfl (lv_at hl 0 rfl) ?_
  refine vk_getf hx hb (hK.1.1 0 (by decide)).2.1 hS hown (hts _ (mj_sw_G (mj_sw (.fieldLink RJ0 15 "java/lang/String" "coder" "B") (by simp)))) (fun _ h => h) (show decode cJ0_isLatin1_aae02 7 = .ok (.getfield 15, 3) by decide +kernel) ?_
  refine lv_if_ne (tgt := 17) hx hb (show decode cJ0_isLatin1_aae02 10 = .ok (.ifCond .ne 7, 3) by decide +kernel) (by decide) (fun q => absurd rfl q) (fun _ => ?_)
  refine lv_iconst (v := 1) hx hb (show decode cJ0_isLatin1_aae02 13 = .ok (.iconst 1, 1) by decide +kernel) (by decide) ?_
  refine lv_goto (tgt := 18) hx hb (show decode cJ0_isLatin1_aae02 14 = .ok (.goto 4, 3) by decide +kernel) (by decide) ?_
  exact W.zret hx hb hr rfl (fun t ht _ => ⟨rfl, ht⟩) (fun q h => by cases h) (show decode cJ0_isLatin1_aae02 18 = .ok (.ireturn, 1) by decide +kernel)
set_option maxHeartbeats 1000000 in
theorem mj_preIndex (l : Launch) (x : Int32) (n : Nat) (hin : vp_in x n) (hn : n < 2 ^ 31) (f : Value) (hf : f = .null ∨ ∃ q, f = .ref q) : Met l yK3_checkIndex (Cond.code yK3_checkIndex cK3_checkIndex 3 (some .int) :: mj_G) (mj_rS 1) (va_Pc [.int x, .int (nI n), f] (fun _ => True)) (mj_RO (some (.int x))) 0 0 (fun _ => False) := by
  refine Met.ofW (cc := cK3_checkIndex) (maxL := 3) (ret := some .int) (by decide) rfl ?_
  intro p e s m args below meth c s₁ B hml hv
  obtain ⟨rfl, -⟩ := hv
  have hx := B.exec
  have hb := B.bytes
  have hr := B.returns
  have hlocks := B.notSynchronized
  have hfc : f.category = 1 := by rcases hf with rfl | ⟨q, rfl⟩ <;> rfl
  have hl := lv_entry ([.int x, .int (nI n), f]) (n := 3) (by rcases hf with rfl | ⟨q, rfl⟩ <;> exact Nat.le_of_ble_eq_true rfl)
  rw [lg_entry_eq]
  generalize (lg_sl ([.int x, .int (nI n), f]) ++ List.replicate (3 - (lg_sl ([.int x, .int (nI n), f])).length) Slot.unset).toArray = ls at hl ⊢
  have hl : lv_has ls 3 [(0, .int x), (1, .int (nI n)), (2, f)] := hl
  refine lv_iload_n hx hb (show decode cK3_checkIndex 0 = .ok (.iload_n 0, 1) by decide +kernel) rfl (lv_at hl 0 rfl) ?_
  refine lv_if_lt (tgt := 9) hx hb (show decode cK3_checkIndex 1 = .ok (.ifCond .lt 8, 3) by decide +kernel) (by decide) (fun q => absurd (Or.inl q) hin) (fun _ => ?_)
  refine lv_iload_n hx hb (show decode cK3_checkIndex 4 = .ok (.iload_n 0, 1) by decide +kernel) rfl (lv_at hl 0 rfl) ?_
  refine lv_iload_n hx hb (show decode cK3_checkIndex 5 = .ok (.iload_n 1, 1) by decide +kernel) rfl (lv_at hl 1 rfl) ?_
  obtain ⟨j, hj, rfl⟩ := vp_in_of hin hn
  refine lv_icmp_lt (tgt := 16) hx hb (show decode cK3_checkIndex 6 = .ok (.if_icmp .lt 10, 3) by decide +kernel) (by decide) (fun _ => ?_) (fun q => absurd (nI_lt hj hn) q)
  refine lv_iload_n hx hb (show decode cK3_checkIndex 16 = .ok (.iload_n 0, 1) by decide +kernel) rfl (lv_at hl 0 rfl) ?_
  exact W.iret hx hb hr (fun t ht _ => ⟨rfl, ht⟩) (fun q h => by cases h) (show decode cK3_checkIndex 17 = .ok (.ireturn, 1) by decide +kernel)
set_option maxHeartbeats 1000000 in
theorem mj_chkIndex (l : Launch) (A : Nat → Prop) (t a v : Nat) (x : Int32) (n : Nat) (hin : vp_in x n) (hn : n < 2 ^ 31) : Met l yJ0_checkIndex_df160 (Cond.code yJ0_checkIndex_df160 cJ0_checkIndex_df160 2 none :: mj_G) (mj_rS 2) (mj_PS A t a v [.int x, .int (nI n)]) (mj_RO none) 0 0 (fun _ => False) := by
  refine Met.ofW (cc := cJ0_checkIndex_df160) (maxL := 2) (ret := none) (by decide) rfl ?_
  intro p e s m args below meth c s₁ B hml hv
  obtain ⟨rfl, hK⟩ := hv
  have hx := B.exec
  have hb := B.bytes
  have hr := B.returns
  have hts := mj_atoms (atoms_spec (ws := Cond.code yJ0_checkIndex_df160 cJ0_checkIndex_df160 2 (none) :: mj_G) B.pre)
  have hown : s.vm.findClass RJ0 = some m.cls := findClass_of_methodNamed B.named
  have hlocks := B.notSynchronized
  have hS : va_S A s.heap s.heap [] := va_S.rf
  have hl := lv_entry ([.int x, .int (nI n)]) (n := 2) (Nat.le_of_ble_eq_true rfl)
  rw [lg_entry_eq]
  generalize (lg_sl ([.int x, .int (nI n)]) ++ List.replicate (2 - (lg_sl ([.int x, .int (nI n)])).length) Slot.unset).toArray = ls at hl ⊢
  have hl : lv_has ls 2 [(0, .int x), (1, .int (nI n))] := hl
  refine lv_iload_n hx hb (show decode cJ0_checkIndex_df160 0 = .ok (.iload_n 0, 1) by decide +kernel) rfl (lv_at hl 0 rfl) ?_
  refine lv_iload_n hx hb (show decode cJ0_checkIndex_df160 1 = .ok (.iload_n 1, 1) by decide +kernel) rfl (lv_at hl 1 rfl) ?_
  have go : ∀ f : Value, (f = .null ∨ ∃ q, f = .ref q) → W p l e (headSpec (Cond.code yJ0_checkIndex_df160 cJ0_checkIndex_df160 2 none :: mj_G) (mj_rS 2)).room s m [Value.int x, .int (nI n)].toArray below meth c s.heap [] 0 0 (MQ below (mj_RO none) [Value.int x, .int (nI n)].toArray s 0 0 (fun _ => False)) (F0 m 5 ls [f, .int (nI n), .int x]) := by
    intro f hf
    refine mj_callRO (r := some (.int x)) (va_runS (As := [.int x, .int (nI n), f]) (rest := []) ⟨hx, hb, hml, hown, hts⟩ (mj_preIndex l x n hin hn f hf) ⟨⟨rfl, rfl, by decide, by decide, mj_wS_pay (mj_sw_G (mj_sw (.code yK3_checkIndex cK3_checkIndex 3 (some .int)) (by simp))) hts, List.mem_cons_self, (hts _ (mj_sw_G (mj_sw (.code yK3_checkIndex cK3_checkIndex 3 (some .int)) (by simp)))), (hts _ (mj_sw_G (mj_sw (.initialized RK3) (by simp)))), by decide, mj_sig (j := 3) (by decide +kernel), (hts _ (mj_sw_G (mj_sw (.methodLink RJ0 1059 yK3_checkIndex) (by simp))))⟩, (hts _ (mj_sw_G (mj_sw (.static yK3_checkIndex) (by simp))))⟩ ⟨fun _ _ _ _ h => h, fun U hU hW => ⟨rfl, trivial⟩⟩ rfl rfl hl.1 rfl (Nat.le_of_ble_eq_true rfl) (show decode cJ0_checkIndex_df160 5 = .ok (.invokestatic 1059, 3) by decide +kernel) ⟨by decide, by decide⟩) ?_
    refine lv_pop hx hb (show decode cJ0_checkIndex_df160 8 = .ok (.pop, 1) by decide +kernel) rfl ?_
    exact W.vret hx hb hr (fun t ht _ => ⟨rfl, ht⟩) (fun q h => by cases h) (show decode cJ0_checkIndex_df160 9 = .ok (.return_, 1) by decide +kernel)
  rcases hK.2.2 with hz | ⟨q, hz⟩
  · exact va_gets hx hb hz hS hown (hts _ (mj_sw_G (mj_sw (.fieldLink RJ0 1053 RK3 "SIOOBE_FORMATTER" "Ljava/util/function/BiFunction;") (by simp)))) (fun _ h => h) (show decode cJ0_checkIndex_df160 2 = .ok (.getstatic 1053, 3) by decide +kernel) (go _ (Or.inl rfl))
  · exact va_gets hx hb hz hS hown (hts _ (mj_sw_G (mj_sw (.fieldLink RJ0 1053 RK3 "SIOOBE_FORMATTER" "Ljava/util/function/BiFunction;") (by simp)))) (fun _ h => h) (show decode cJ0_checkIndex_df160 2 = .ok (.getstatic 1053, 3) by decide +kernel) (go _ (Or.inr ⟨q, rfl⟩))
theorem mj_tx_ok : ∀ i ∈ mj_txs, i.length < 100 ∧ ∀ b ∈ i, b &&& 255 = b ∧ (b.toUInt32.toUInt16.toUInt32.toInt32) = b := by decide +kernel
theorem mj_tx_len (t : Nat) : (mj_tx t).length < 100 := by
  unfold mj_tx
  rw [List.getD_eq_getElem?_getD]
  cases h : mj_txs[t]? with
  | none => decide
  | some i => exact (mj_tx_ok i (List.mem_of_getElem? h)).1
theorem mj_tx_b {t k : Nat} (hk : k < (mj_tx t).length) : (mj_tx t).getD k 0 &&& 255 = (mj_tx t).getD k 0 ∧ ((mj_tx t).getD k 0).toUInt32.toUInt16.toUInt32.toInt32 = (mj_tx t).getD k 0 := by
  have h1 : (mj_tx t).getD k 0 ∈ mj_tx t := by
    rw [List.getD_eq_getElem?_getD, List.getElem?_eq_getElem hk]
    exact List.getElem_mem hk
  generalize (mj_tx t).getD k 0 = b at h1 ⊢
  unfold mj_tx at h1
  rw [List.getD_eq_getElem?_getD] at h1
  cases h : mj_txs[t]? with
  | none => rw [h] at h1; cases h1
  | some i => rw [h] at h1; exact (mj_tx_ok i (List.mem_of_getElem? h)).2 b h1
set_option maxHeartbeats 1000000 in
theorem mj_l1char (l : Launch) (A : Nat → Prop) (t a v k : Nat) (hk : k < (mj_tx t).length) : Met l yK1_charAt (Cond.code yK1_charAt cK1_charAt 2 (some .char) :: mj_G) (mj_rS 3) (mj_PS A t a v [.ref v, .int (nI k)]) (mj_RO (some (.int ((mj_tx t).getD k 0)))) 0 0 (fun _ => False) := by
  have hlen := mj_tx_len t
  refine Met.ofW (cc := cK1_charAt) (maxL := 2) (ret := some .char) (by decide) rfl ?_
  intro p e s m args below meth c s₁ B hml hv
  obtain ⟨rfl, hK⟩ := hv
  have hx := B.exec
  have hb := B.bytes
  have hr := B.returns
  have hts := mj_atoms (atoms_spec (ws := Cond.code yK1_charAt cK1_charAt 2 (some .char) :: mj_G) B.pre)
  have hown : s.vm.findClass RK1 = some m.cls := findClass_of_methodNamed B.named
  have hlocks := B.notSynchronized
  have hS : va_S A s.heap s.heap [] := va_S.rf
  have hl := lv_entry ([.ref v, .int (nI k)]) (n := 2) (Nat.le_of_ble_eq_true rfl)
  rw [lg_entry_eq]
  generalize (lg_sl ([.ref v, .int (nI k)]) ++ List.replicate (2 - (lg_sl ([.ref v, .int (nI k)])).length) Slot.unset).toArray = ls at hl ⊢
  have hl : lv_has ls 2 [(0, .ref v), (1, .int (nI k))] := hl
  have hT : va_T .byte v (mj_tx t).length (fun j => .int ((mj_tx t).getD j 0)) A s s.heap := (hK.1.1 0 (by decide)).2.2.2
  refine lv_iload_n hx hb (show decode cK1_charAt 0 = .ok (.iload_n 1, 1) by decide +kernel) rfl (lv_at hl 1 rfl) ?_
  refine lv_aload_n hx hb (show decode cK1_charAt 1 = .ok (.aload_n 0, 1) by decide +kernel) rfl (lv_at hl 0 rfl) ?_
  refine va_tlen hx hb hT hS (v := nI (mj_tx t).length) rfl (show decode cK1_charAt 2 = .ok (.arraylength, 1) by decide +kernel) ?_
  refine mj_callRO (r := none) (va_runS (As := [.int (nI k), .int (nI (mj_tx t).length)]) (rest := []) ⟨hx, hb, hml, hown, hts⟩ (mj_chkIndex l A t a v (nI k) (mj_tx t).length (vp_in_nI hk (by omega)) (by omega)) ⟨⟨rfl, rfl, by decide, by decide, mj_wS_pay (mj_sw_G (mj_sw (.code yJ0_checkIndex_df160 cJ0_checkIndex_df160 2 none) (by simp))) hts, List.mem_cons_self, (hts _ (mj_sw_G (mj_sw (.code yJ0_checkIndex_df160 cJ0_checkIndex_df160 2 none) (by simp)))), (hts _ (mj_sw_G (mj_sw (.initialized RJ0) (by simp)))), by decide, mj_sig (j := 2) (by decide +kernel), (hts _ (mj_sw_G (mj_sw (.methodLink RK1 9 yJ0_checkIndex_df160) (by simp))))⟩, (hts _ (mj_sw_G (mj_sw (.static yJ0_checkIndex_df160) (by simp))))⟩ ⟨mj_PS_blind, fun U hU hW => ⟨rfl, by show mj_SK A t a v U U.heap; rw [hU]; exact mj_SK_moved hW hK⟩⟩ rfl rfl hl.1 rfl (Nat.le_of_ble_eq_true rfl) (show decode cK1_charAt 3 = .ok (.invokestatic 9, 3) by decide +kernel) ⟨by decide, by decide⟩) ?_
  refine lv_aload_n hx hb (show decode cK1_charAt 6 = .ok (.aload_n 0, 1) by decide +kernel) rfl (lv_at hl 0 rfl) ?_
  refine lv_iload_n hx hb (show decode cK1_charAt 7 = .ok (.iload_n 1, 1) by decide +kernel) rfl (lv_at hl 1 rfl) ?_
  refine va_tb hx hb hT hS (vp_in_nI hk (by omega)) (v := .int ((mj_tx t).getD k 0)) (by rw [nI_clamp (by omega)]) (show decode cK1_charAt 8 = .ok (.baload, 1) by decide +kernel) ?_
  refine lv_sipush (v := 255) hx hb (show decode cK1_charAt 9 = .ok (.sipush 255, 3) by decide +kernel) (by decide) ?_
  refine lv_iand hx hb (show decode cK1_charAt 12 = .ok (.iand, 1) by decide +kernel) ?_
  rw [(mj_tx_b hk).1]
  refine lv_i2c (v := (mj_tx t).getD k 0) hx hb (show decode cK1_charAt 13 = .ok (.i2c, 1) by decide +kernel) (mj_tx_b hk).2 ?_
  exact W.zret hx hb hr (by show Value.int (_ : Int32) = _; exact congrArg Value.int (mj_tx_b hk).2) (fun t ht _ => ⟨rfl, ht⟩) (fun q h => by cases h) (show decode cK1_charAt 14 = .ok (.ireturn, 1) by decide +kernel)
theorem mj_SK_recv {A : Nat → Prop} {t a v : Nat} {s : State} (hK : mj_SK A t a v s s.heap) : ∃ cell : Cell, s.heap[a]? = some cell ∧ cell.vm.isStatics = false ∧ s.vm.findClass RJ0 = some cell.cls := by
  obtain ⟨cell, h1, h2, h3, -⟩ := (hK.1.1 0 (by decide)).1
  exact ⟨cell, h1, h2, h3⟩
set_option maxHeartbeats 1000000 in
theorem mj_length (l : Launch) (A : Nat → Prop) (t a v : Nat) : Met l yJ0_length_8abf5 (Cond.code yJ0_length_8abf5 cJ0_length_8abf5 1 (some .int) :: mj_G) (mj_rS 2) (mj_PS A t a v [.ref a]) (mj_RO (some (.int (nI (mj_tx t).length)))) 0 0 (fun _ => False) := by
  refine Met.ofW (cc := cJ0_length_8abf5) (maxL := 1) (ret := some .int) (by decide) rfl ?_
  intro p e s m args below meth c s₁ B hml hv
  obtain ⟨rfl, hK⟩ := hv
  have hx := B.exec
  have hb := B.bytes
  have hr := B.returns
  have hts := mj_atoms (atoms_spec (ws := Cond.code yJ0_length_8abf5 cJ0_length_8abf5 1 (some .int) :: mj_G) B.pre)
  have hown : s.vm.findClass RJ0 = some m.cls := findClass_of_methodNamed B.named
  have hlocks := B.notSynchronized
  have hS : va_S A s.heap s.heap [] := va_S.rf
  have hl := lv_entry ([.ref a]) (n := 1) (Nat.le_of_ble_eq_true rfl)
  rw [lg_entry_eq]
  generalize (lg_sl ([.ref a]) ++ List.replicate (1 - (lg_sl ([.ref a])).length) Slot.unset).toArray = ls at hl ⊢
  have hl : lv_has ls 1 [(0, .ref a)] := hl
  have hT : va_T .byte v (mj_tx t).length (fun j => .int ((mj_tx t).getD j 0)) A s s.heap := (hK.1.1 0 (by decide)).2.2.2
  have hlen := mj_tx_len t
  refine lv_aload_n hx hb (show decode cJ0_length_8abf5 0 = .ok (.aload_n 0, 1) by decide +kernel) rfl (lv_at hl 0 rfl) ?_
  refine vk_getf hx hb (hK.1.1 0 (by decide)).2.2.1 hS hown (hts _ (mj_sw_G (mj_sw (.fieldLink RJ0 9 "java/lang/String" "value" "[B") (by simp)))) (fun _ h => h) (show decode cJ0_length_8abf5 1 = .ok (.getfield 9, 3) by decide +kernel) ?_
  refine va_tlen hx hb hT hS (v := nI (mj_tx t).length) rfl (show decode cJ0_length_8abf5 4 = .ok (.arraylength, 1) by decide +kernel) ?_
  refine lv_aload_n hx hb (show decode cJ0_length_8abf5 5 = .ok (.aload_n 0, 1) by decide +kernel) rfl (lv_at hl 0 rfl) ?_
  refine mj_callRO (r := some (.int 0)) (va_runV (C := RJ0) (As := []) ⟨hx, hb, hml, hown, hts⟩ (mj_coder l A t a v) ⟨⟨rfl, rfl, by decide, by decide, mj_wS_pay (mj_sw_G (mj_sw (.code yJ0_coder_7d493 cJ0_coder_7d493 1 (some .byte)) (by simp))) hts, List.mem_cons_self, (hts _ (mj_sw_G (mj_sw (.code yJ0_coder_7d493 cJ0_coder_7d493 1 (some .byte)) (by simp)))), (hts _ (mj_sw_G (mj_sw (.initialized RJ0) (by simp)))), by decide, mj_sig (by decide +kernel), (hts _ (mj_sw_G (mj_sw (.methodLink RJ0 335 yJ0_coder_7d493) (by simp))))⟩, (hts _ (mj_sw_G (mj_sw (.instanceMethod yJ0_coder_7d493) (by simp)))), (hts _ (mj_sw_G (mj_sw (.selects RJ0 yJ0_coder_7d493 yJ0_coder_7d493) (by simp))))⟩ ⟨mj_PS_blind, mj_SK_recv hK, fun U hU hW => ⟨rfl, by show mj_SK A t a v U U.heap; rw [hU]; exact mj_SK_moved hW hK⟩⟩ rfl rfl hl.1 rfl (Nat.le_of_ble_eq_true rfl) (show decode cJ0_length_8abf5 6 = .ok (.invokevirtual 335, 3) by decide +kernel) ⟨by decide, by decide⟩) ?_
  refine lv_ishr hx hb (show decode cJ0_length_8abf5 9 = .ok (.ishr, 1) by decide +kernel) ?_
  have e0 : nI (mj_tx t).length >>> ((0 : Int32) &&& 31) = nI (mj_tx t).length := by
    rw [show ((0 : Int32) &&& 31) = 0 by decide]
    exact Int32.shiftRight_zero
  rw [e0]
  exact W.iret hx hb hr (fun t ht _ => ⟨rfl, ht⟩) (fun q h => by cases h) (show decode cJ0_length_8abf5 10 = .ok (.ireturn, 1) by decide +kernel)
set_option maxHeartbeats 1000000 in
theorem mj_charAt (l : Launch) (A : Nat → Prop) (t a v k : Nat) (hk : k < (mj_tx t).length) : Met l yJ0_charAt_5068e (Cond.code yJ0_charAt_5068e cJ0_charAt_5068e 2 (some .char) :: mj_G) (mj_rS 4) (mj_PS A t a v [.ref a, .int (nI k)]) (mj_RO (some (.int ((mj_tx t).getD k 0)))) 0 0 (fun _ => False) := by
  refine Met.ofW (cc := cJ0_charAt_5068e) (maxL := 2) (ret := some .char) (by decide) rfl ?_
  intro p e s m args below meth c s₁ B hml hv
  obtain ⟨rfl, hK⟩ := hv
  have hx := B.exec
  have hb := B.bytes
  have hr := B.returns
  have hts := mj_atoms (atoms_spec (ws := Cond.code yJ0_charAt_5068e cJ0_charAt_5068e 2 (some .char) :: mj_G) B.pre)
  have hown : s.vm.findClass RJ0 = some m.cls := findClass_of_methodNamed B.named
  have hlocks := B.notSynchronized
  have hS : va_S A s.heap s.heap [] := va_S.rf
  have hl := lv_entry ([.ref a, .int (nI k)]) (n := 2) (Nat.le_of_ble_eq_true rfl)
  rw [lg_entry_eq]
  generalize (lg_sl ([.ref a, .int (nI k)]) ++ List.replicate (2 - (lg_sl ([.ref a, .int (nI k)])).length) Slot.unset).toArray = ls at hl ⊢
  have hl : lv_has ls 2 [(0, .ref a), (1, .int (nI k))] := hl
  have hlen := mj_tx_len t
  refine lv_aload_n hx hb (show decode cJ0_charAt_5068e 0 = .ok (.aload_n 0, 1) by decide +kernel) rfl (lv_at hl 0 rfl) ?_
  refine mj_callRO (r := some (.int 1)) (va_runV (C := RJ0) (As := []) ⟨hx, hb, hml, hown, hts⟩ (mj_isLatin1 l A t a v) ⟨⟨rfl, rfl, by decide, by decide, mj_wS_pay (mj_sw_G (mj_sw (.code yJ0_isLatin1_aae02 cJ0_isLatin1_aae02 1 (some .boolean)) (by simp))) hts, List.mem_cons_self, (hts _ (mj_sw_G (mj_sw (.code yJ0_isLatin1_aae02 cJ0_isLatin1_aae02 1 (some .boolean)) (by simp)))), (hts _ (mj_sw_G (mj_sw (.initialized RJ0) (by simp)))), by decide, mj_sig (by decide +kernel), (hts _ (mj_sw_G (mj_sw (.methodLink RJ0 492 yJ0_isLatin1_aae02) (by simp))))⟩, (hts _ (mj_sw_G (mj_sw (.instanceMethod yJ0_isLatin1_aae02) (by simp)))), (hts _ (mj_sw_G (mj_sw (.selects RJ0 yJ0_isLatin1_aae02 yJ0_isLatin1_aae02) (by simp))))⟩ ⟨mj_PS_blind, mj_SK_recv hK, fun U hU hW => ⟨rfl, by show mj_SK A t a v U U.heap; rw [hU]; exact mj_SK_moved hW hK⟩⟩ rfl rfl hl.1 rfl (Nat.le_of_ble_eq_true rfl) (show decode cJ0_charAt_5068e 1 = .ok (.invokevirtual 492, 3) by decide +kernel) ⟨by decide, by decide⟩) ?_
  refine lv_if_eq (tgt := 16) hx hb (show decode cJ0_charAt_5068e 4 = .ok (.ifCond .eq 12, 3) by decide +kernel) (by decide) (fun q => absurd q (by decide)) (fun _ => ?_)
  refine lv_aload_n hx hb (show decode cJ0_charAt_5068e 7 = .ok (.aload_n 0, 1) by decide +kernel) rfl (lv_at hl 0 rfl) ?_
  refine vk_getf hx hb (hK.1.1 0 (by decide)).2.2.1 hS hown (hts _ (mj_sw_G (mj_sw (.fieldLink RJ0 9 "java/lang/String" "value" "[B") (by simp)))) (fun _ h => h) (show decode cJ0_charAt_5068e 8 = .ok (.getfield 9, 3) by decide +kernel) ?_
  refine lv_iload_n hx hb (show decode cJ0_charAt_5068e 11 = .ok (.iload_n 1, 1) by decide +kernel) rfl (lv_at hl 1 rfl) ?_
  refine mj_callRO (r := some (.int ((mj_tx t).getD k 0))) (va_runS (As := [.ref v, .int (nI k)]) (rest := []) ⟨hx, hb, hml, hown, hts⟩ (mj_l1char l A t a v k hk) ⟨⟨rfl, rfl, by decide, by decide, mj_wS_pay (mj_sw_G (mj_sw (.code yK1_charAt cK1_charAt 2 (some .char)) (by simp))) hts, List.mem_cons_self, (hts _ (mj_sw_G (mj_sw (.code yK1_charAt cK1_charAt 2 (some .char)) (by simp)))), (hts _ (mj_sw_G (mj_sw (.initialized RK1) (by simp)))), by decide, mj_sig (j := 2) (by decide +kernel), (hts _ (mj_sw_G (mj_sw (.methodLink RJ0 495 yK1_charAt) (by simp))))⟩, (hts _ (mj_sw_G (mj_sw (.static yK1_charAt) (by simp))))⟩ ⟨mj_PS_blind, fun U hU hW => ⟨rfl, by show mj_SK A t a v U U.heap; rw [hU]; exact mj_SK_moved hW hK⟩⟩ rfl rfl hl.1 rfl (Nat.le_of_ble_eq_true rfl) (show decode cJ0_charAt_5068e 12 = .ok (.invokestatic 495, 3) by decide +kernel) ⟨by decide, by decide⟩) ?_
  exact W.zret hx hb hr (by show Value.int (_ : Int32) = _; exact congrArg Value.int (mj_tx_b hk).2) (fun t ht _ => ⟨rfl, ht⟩) (fun q h => by cases h) (show decode cJ0_charAt_5068e 15 = .ok (.ireturn, 1) by decide +kernel)
section MJT2
variable {p : Program} {l : Launch} {e : Env} {R : Room} {s : State} {m : MethodId} {args : Array Value} {below : List Frame} {meth : Method} {c : Code} {H : Heap} {cells slots : Nat} {Q : State → Prop} {locs : List Loc}
variable {cc : ByteArray} {pc : Nat} {ls : Array Slot} {rest : List Value} {E : mj_E} {sc : Nat × (Nat → Int32)} {sx sv : Nat → Nat} {n d own t k ix : Nat}
theorem mj_K_SK (hK : mj_K E sc sx sv s s.heap) (hS : va_S (mj_A E) s.heap H locs) (ht : t < 71) : ∀ U : State, U.heap = H → s.WarmedH U.vm → mj_SK (mj_A E) t (E.2.1 (mj_SC + 1 + t)) (sv t) U U.heap := fun U hU hW => by
  have h := mj_K_warm hK hS hW
  rw [hU]
  exact ⟨h.2.2.2.2.2.2.1.1 t ht, h.2.2.2.2.2.2.1.2.1, h.2.2.2.2.2.2.1.2.2⟩
theorem mj_K_recv (hK : mj_K E sc sx sv s s.heap) (hS : va_S (mj_A E) s.heap H locs) (ht : t < 71) : ∃ cell : Cell, H[E.2.1 (mj_SC + 1 + t)]? = some cell ∧ cell.vm.isStatics = false ∧ s.vm.findClass RJ0 = some cell.cls := vk_recv (hK.2.2.2.2.2.2.1.1 t ht) (i := 0) (by decide) hS
theorem mj_strlen (hx : p.tables.exec = Jvm.exec) (hb : c.code = cc) (hml : c.maxLocals = n) (hown : s.vm.findClass (mj_cn own) = some m.cls) (hts : ∀ w ∈ mj_G, w.before args s = true) (hK : mj_K E sc sx sv s s.heap) (hS : va_S (mj_A E) s.heap H locs) (hsz : ls.size = n) (ht : t < 71) (hix : (own, ix, 5) ∈ mj_lk) (hcat : (rest.map fun v => v.category).sum ≤ 8)
    (hdc : decode cc pc = .ok (.invokevirtual ix, 3)) (hRf : d + 9 ≤ R.frames) (hRl : 64 * (d + 1) + 400 ≤ R.locals) (hc : cells ≤ R.cells) (hs : slots ≤ R.slots)
    (kk : W p l e R s m args below meth c H locs cells slots Q (F0 m (pc + 3) ls (.int (nI (mj_tx t).length) :: rest))) : W p l e R s m args below meth c H locs cells slots Q (F0 m pc ls (.ref (E.2.1 (mj_SC + 1 + t)) :: rest)) := by
  have hlnk := hts _ (mj_G_of (mj_lk_ok _ hix) rfl)
  refine mj_callRO (r := some (.int (nI (mj_tx t).length))) (va_runV (C := RJ0) (As := []) (rest := rest) ⟨hx, hb, hml, hown, hts⟩ (mj_length l (mj_A E) t (E.2.1 (mj_SC + 1 + t)) (sv t)) ⟨⟨rfl, rfl, by show 2 + 1 ≤ _; omega, by show 8 + (1 + 11) + 40 * 2 ≤ _; omega, mj_wS_pay (mj_sw_G (mj_sw (.code yJ0_length_8abf5 cJ0_length_8abf5 1 (some .int)) (by simp))) hts, List.mem_cons_self, (hts _ (mj_sw_G (mj_sw (.code yJ0_length_8abf5 cJ0_length_8abf5 1 (some .int)) (by simp)))), (hts _ (mj_sw_G (mj_sw (.initialized RJ0) (by simp)))), by decide, mj_sig (by decide +kernel), hlnk⟩, (hts _ (mj_sw_G (mj_sw (.instanceMethod yJ0_length_8abf5) (by simp)))), (hts _ (mj_sw_G (mj_sw (.selects RJ0 yJ0_length_8abf5 yJ0_length_8abf5) (by simp))))⟩ ⟨mj_PS_blind, mj_K_recv hK hS ht, fun U hU hW => ⟨rfl, mj_K_SK hK hS ht U hU hW⟩⟩ rfl rfl hsz rfl (by show 2 * 0 + _ ≤ _; omega) hdc ⟨hc, hs⟩) kk
theorem mj_strchar (hx : p.tables.exec = Jvm.exec) (hb : c.code = cc) (hml : c.maxLocals = n) (hown : s.vm.findClass (mj_cn own) = some m.cls) (hts : ∀ w ∈ mj_G, w.before args s = true) (hK : mj_K E sc sx sv s s.heap) (hS : va_S (mj_A E) s.heap H locs) (hsz : ls.size = n) (ht : t < 71) (hk : k < (mj_tx t).length) (hix : (own, ix, 6) ∈ mj_lk) (hcat : (rest.map fun v => v.category).sum ≤ 8)
    (hdc : decode cc pc = .ok (.invokevirtual ix, 3)) (hRf : d + 9 ≤ R.frames) (hRl : 64 * (d + 1) + 400 ≤ R.locals) (hc : cells ≤ R.cells) (hs : slots ≤ R.slots)
    (kk : W p l e R s m args below meth c H locs cells slots Q (F0 m (pc + 3) ls (.int ((mj_tx t).getD k 0) :: rest))) : W p l e R s m args below meth c H locs cells slots Q (F0 m pc ls (.int (nI k) :: .ref (E.2.1 (mj_SC + 1 + t)) :: rest)) := by
  have hlnk := hts _ (mj_G_of (mj_lk_ok _ hix) rfl)
  refine mj_callRO (r := some (.int ((mj_tx t).getD k 0))) (va_runV (C := RJ0) (As := [.int (nI k)]) (rest := rest) ⟨hx, hb, hml, hown, hts⟩ (mj_charAt l (mj_A E) t (E.2.1 (mj_SC + 1 + t)) (sv t) k hk) ⟨⟨rfl, rfl, by show 4 + 1 ≤ _; omega, by show 8 + (2 + 11) + 40 * 4 ≤ _; omega, mj_wS_pay (mj_sw_G (mj_sw (.code yJ0_charAt_5068e cJ0_charAt_5068e 2 (some .char)) (by simp))) hts, List.mem_cons_self, (hts _ (mj_sw_G (mj_sw (.code yJ0_charAt_5068e cJ0_charAt_5068e 2 (some .char)) (by simp)))), (hts _ (mj_sw_G (mj_sw (.initialized RJ0) (by simp)))), by decide, mj_sig (j := 1) (by decide +kernel), hlnk⟩, (hts _ (mj_sw_G (mj_sw (.instanceMethod yJ0_charAt_5068e) (by simp)))), (hts _ (mj_sw_G (mj_sw (.selects RJ0 yJ0_charAt_5068e yJ0_charAt_5068e) (by simp))))⟩ ⟨mj_PS_blind, mj_K_recv hK hS ht, fun U hU hW => ⟨rfl, mj_K_SK hK hS ht U hU hW⟩⟩ rfl rfl hsz rfl (by show 2 * 0 + _ ≤ _; omega) hdc ⟨hc, hs⟩) kk
theorem mj_ldcs {own tx : String} {is sa : Nat} (hexec : p.tables.exec = Jvm.exec) (hb : c.code = cc) (hown : s.vm.findClass own = some m.cls) (hZ : vk_R own is tx sa s) (hdg : decode cc pc = .ok (.ldc is, 2))
    (kk : W p l e R s m args below meth c H locs cells slots Q (F0 m (pc + 2) ls (.ref sa :: rest))) : W p l e R s m args below meth c H locs cells slots Q (F0 m pc ls rest) := by
  intro T hT X
  obtain ⟨t, a1, b1⟩ := kk T hT X
  exact ⟨t, X.ldcString hexec hown (text := tx) (a := sa) hZ.1 hZ.2 (g := F0 m pc ls rest) rfl (by rw [hb]; exact hdg) t a1, b1⟩
theorem mj_ldcsw {own tx : String} {is sa : Nat} (hexec : p.tables.exec = Jvm.exec) (hb : c.code = cc) (hown : s.vm.findClass own = some m.cls) (hZ : vk_R own is tx sa s) (hdg : decode cc pc = .ok (.ldc_w is, 3))
    (kk : W p l e R s m args below meth c H locs cells slots Q (F0 m (pc + 3) ls (.ref sa :: rest))) : W p l e R s m args below meth c H locs cells slots Q (F0 m pc ls rest) := by
  intro T hT X
  obtain ⟨t, a1, b1⟩ := kk T hT X
  exact ⟨t, X.ldcStringW hexec hown (text := tx) (a := sa) hZ.1 hZ.2 (g := F0 m pc ls rest) rfl (by rw [hb]; exact hdg) t a1, b1⟩
end MJT2
