/-! ===== what a start knows; contracts; one block held against the machine ===== -/
def mj_cp (c : mj_C) : Bool := match c with
  | .inl _ => true
  | .inr (_, fs) => fs.all mj_pl
def mj_I (E : mj_E) (h : mj_H) (cl : Bool) (H : Heap) : Prop := va_P E.2.2.1 vwCl (mj_ws E h) H ∧ E.1 + h.length ≤ H.size ∧ (cl = true → H.size = E.1 + h.length) ∧ ∀ c ∈ h, mj_cp c = true
def mj_NW : List Cond := lw_tbl.filter (fun w => match w with
  | .castable .. => true
  | .declares _ => true
  | .methodLinkNest .. => true
  | _ => false)
-- sx: where the texts of exceptions lie; sv: where the bytes of texts lie
def mj_K (E : mj_E) (sc : Nat × (Nat → Int32)) (sx sv : Nat → Nat) (U : State) (H : Heap) : Prop :=
  (va_K E.2.2.1 vwCl (mj_tys E) U ∧ va_AO "OsierHolt$Holt" U) ∧
  (vx_Zq Bundle.tN "UNASSIGNED_STACK" Bundle.steD (mj_A E) U H ∧ vx_Zq Bundle.tN "SUPPRESSED_SENTINEL" Bundle.listD (mj_A E) U H) ∧
  (∀ w ∈ mj_NW, va_Nw w U) ∧ (∀ x y, x < 5 → y < 5 → x ≠ y → va_Nc (mj_xn x) (mj_xn y) U) ∧
  (∀ q ∈ mj_lkS, vk_R (mj_cn q.1) q.2.1 (mj_tS.getD q.2.2 "") (E.2.1 (mj_SC + 1 + q.2.2)) U) ∧ (∀ q ∈ mj_th, vk_R (mj_cn q.1) q.2.2.2.1 q.2.2.2.2.2.2 (sx q.2.2.2.1) U) ∧
  ((∀ t, t < 71 → vk_S 1 [(mj_tx t).length] [mj_tx t] (fun _ => E.2.1 (mj_SC + 1 + t)) (fun _ => sv t) (mj_A E) U H) ∧ va_Z "java/lang/String" "COMPACT_STRINGS" "Z" (.int 1) (mj_A E) U H ∧ va_Zq "jdk/internal/util/Preconditions" "SIOOBE_FORMATTER" "Ljava/util/function/BiFunction;" (mj_A E) U H) ∧
  (va_X (E.2.1 mj_SC) sc.1 sc.2 U H ∧ E.2.1 mj_SC < E.1) ∧ E.1 ≤ H.size ∧ (∀ k, k < mj_SC → E.2.1 k = E.1 + k)
theorem mj_NW_warm {w : Cond} (h : w ∈ mj_NW) {s U : State} (hW : s.WarmedH U.vm) (hz : va_Nw w s) : va_Nw w U := by
  have h2 := (List.mem_filter.mp h).2
  cases w <;> first
    | exact va_Nw.warmC hW hz
    | exact va_Nw.warmD hW hz
    | exact va_Nw.warmM hW hz
    | cases h2
theorem mj_K_warm {E : mj_E} {sc : Nat × (Nat → Int32)} {sx sv : Nat → Nat} {s U : State} {H : Heap} {locs : List Loc} (hK : mj_K E sc sx sv s s.heap) (hS : va_S (mj_A E) s.heap H locs) (hW : s.WarmedH U.vm) : mj_K E sc sx sv U H := by
  obtain ⟨⟨a1, a2⟩, ⟨b1, b2⟩, c1, d1, e1, f1, ⟨g1, g2, g3⟩, ⟨h1, h2⟩, i1, j1⟩ := hK
  have hk := hS.2.1
  refine ⟨⟨va_K.moved hW.alike a1, va_AO.moved hW.alike a2⟩, ⟨vx_Zq.moved hW.alike (b1.kept hk), vx_Zq.moved hW.alike (b2.kept hk)⟩, fun w hw => mj_NW_warm hw hW (c1 w hw), fun x y hx hy hxy => (d1 x y hx hy hxy).moved hW.alike, fun q hq => vk_R.warm hW (e1 q hq), fun q hq => vk_R.warm hW (f1 q hq), ⟨fun t ht => vk_S.moved hW.alike ((g1 t ht).kept hk), va_Z.moved hW.alike (va_Z.kept g2 hk), va_Zq.moved hW.alike (va_Zq.kept g3 hk)⟩, ⟨va_X.moved hW.alike (va_X.kept h1 (hk _ (Nat.lt_of_lt_of_le h2 i1) (fun z => absurd h2 (Nat.not_lt.mpr z)))), h2⟩, Nat.le_trans i1 hS.1, j1⟩
def mj_Pc (E : mj_E) (sc : Nat × (Nat → Int32)) (sx sv : Nat → Nat) (as : List Value) (h : mj_H) (cl : Bool) : Array Value → State → Prop := va_Pc (as.map (mj_rl E.2.1)) (fun U => mj_I E h cl U.heap ∧ mj_K E sc sx sv U U.heap)
def mj_Qc (E : mj_E) (Q : mj_Q) (cap : Nat) : Array Value → State → Outcome → State → Prop := fun _ st oc t => (∃ r h cl, Q (.inl r) h cl ∧ oc = .returned (r.map (mj_rl E.2.1)) ∧ mj_I E h cl t.heap ∧ h.length ≤ cap ∧ ∀ v, r = some v → mj_pl v = true) ∧ va_F (mj_A E) st t
def mj_Xc (E : mj_E) (Q : mj_Q) (cap : Nat) : String → State → State → Prop := fun X st t => (∃ x h cl, Q (.inr x) h cl ∧ X = mj_xn x ∧ x < 5 ∧ mj_I E h cl t.heap ∧ h.length ≤ cap) ∧ va_F (mj_A E) st t
def mj_rm (d dc ds : Nat) : Room := { frames := d + 8, cells := dc, slots := ds, locals := 64 * d + 400 }
noncomputable def mj_wj (j : Nat) : List Cond := match mj_m j with
  | some e => (if mj_hh j = [] then Cond.code e.1 e.2.1 (mj_nl j) e.2.2.1 else Cond.codeWith e.1 e.2.1 (mj_nl j) e.2.2.1 (mj_hh j)) :: mj_G
  | none => mj_G
/-- a method's contract, for one run of the small machine -/
def mj_Con (l : Launch) (E : mj_E) (sc : Nat × (Nat → Int32)) (sx sv : Nat → Nat) (d : Nat) : mj_R := fun j as h cl dc ds o h' cl' =>
  ∀ cap, h.length + dc ≤ cap → cap < mj_SC → vx_Met l (mj_yn j) (mj_wj j) (mj_rm d dc ds) (mj_Pc E sc sx sv as h cl) (mj_Qc E (fun o1 h1 cl1 => o1 = o ∧ h1 = h' ∧ cl1 = cl') cap) (mj_Xc E (fun o1 h1 cl1 => o1 = o ∧ h1 = h' ∧ cl1 = cl') cap) dc ds (mj_A E)
theorem mj_ckb_cons {own : Nat} {cc : ByteArray} {ret : Option FieldType} {ini : Bool} {pc : Nat} {i : Instr} {is : mj_B} {cur ft : Nat} (h : mj_ckb own cc ret ini ((pc, i) :: is) cur ft = true) : pc = cur ∧ ∃ n, mj_len own cc ret ini pc i = some n ∧ mj_ckb own cc ret ini is (pc + n) ft = true := by
  unfold mj_ckb at h
  rw [Bool.and_eq_true] at h
  obtain ⟨h1, h2⟩ := h
  refine ⟨by simpa using h1, ?_⟩
  cases hl : mj_len own cc ret ini pc i with
  | none => rw [hl] at h2; cases h2
  | some n => rw [hl] at h2; exact ⟨n, rfl, h2⟩
theorem mj_dc_ok {cc : ByteArray} {pc : Nat} {r : Instr × Nat} (h : mj_dc cc pc = some r) : decode cc pc = .ok r := by
  unfold mj_dc at h
  cases hd : decode cc pc with
  | ok x => rw [hd] at h; cases h; rfl
  | error x => rw [hd] at h; cases h
theorem mj_len_dc {own : Nat} {cc : ByteArray} {ret : Option FieldType} {ini : Bool} {pc : Nat} {i : Instr} {n : Nat} (hi : ∀ x, i ≠ .instanceof x) (h : mj_len own cc ret ini pc i = some n) : ∃ r, r ∈ mj_cand own pc ret ini i ∧ decode cc pc = .ok r ∧ n = r.2 := by
  unfold mj_len at h
  split at h
  · exact absurd rfl (hi _)
  · split at h
    · rename_i r hr
      split at h
      · rename_i hc
        obtain ⟨c, hc1, hc2⟩ := List.any_eq_true.mp hc
        have : c = r := by simpa using hc2
        subst this
        cases h
        exact ⟨c, hc1, mj_dc_ok hr, rfl⟩
      · cases h
    · cases h
theorem mj_ix_mem {l : List (Nat × Nat × Nat)} {own k i : Nat} (h : i ∈ mj_ix l own k) : (own, i, k) ∈ l := by
  obtain ⟨e, he, h2⟩ := List.mem_filterMap.mp h
  split at h2
  · rename_i g
    cases h2
    rw [← g.1, ← g.2]
    exact he
  · cases h2
theorem mj_ixI_mem {l : List (Nat × Nat × Int)} {own i : Nat} {k : Int} (h : i ∈ mj_ixI l own k) : (own, i, k) ∈ l := by
  obtain ⟨e, he, h2⟩ := List.mem_filterMap.mp h
  split at h2
  · rename_i g
    cases h2
    rw [← g.1, ← g.2]
    exact he
  · cases h2
section MJS
variable {p : Program} {l : Launch} {e : Env} {R : Room} {s : State} {m : MethodId} {args : Array Value} {below : List Frame} {meth : Method} {c : Code}
variable {E : mj_E} {sc : Nat × (Nat → Int32)} {sx sv : Nat → Nat} {n cap : Nat}
-- at a place of a method
def mj_at (E : mj_E) (n cap : Nat) (s : State) (R : Room) (ls st : List Value) (h : mj_H) (cl : Bool) (rc rs : Nat) (H : Heap) (locs : List Loc) (cells slots : Nat) (ls' : Array Slot) (st' : List Value) : Prop :=
  mj_I E h cl H ∧ va_S (mj_A E) s.heap H locs ∧ cells + rc ≤ R.cells ∧ slots + rs ≤ R.slots ∧ h.length + rc ≤ cap ∧ mj_L E.2.1 n ls ls' ∧ mj_St E.2.1 st st'
def mj_JW (p : Program) (l : Launch) (e : Env) (R : Room) (s : State) (m : MethodId) (args : Array Value) (below : List Frame) (meth : Method) (c : Code) (E : mj_E) (n cap : Nat) (Z : State → Prop) : mj_J := fun pc ls st h cl rc rs =>
  ∀ (H : Heap) (locs : List Loc) (cells slots : Nat) (ls' : Array Slot) (st' : List Value), mj_at E n cap s R ls st h cl rc rs H locs cells slots ls' st' → W p l e R s m args below meth c H locs cells slots Z (F0 m pc ls' st')
theorem mj_St_1 {ad : Nat → Nat} {v w : Value} {st st' : List Value} (hv : mj_V ad v w) (h : mj_St ad st st') : mj_St ad (v :: st) (w :: st') := ⟨hv, h⟩
theorem mj_St_i {ad : Nat → Nat} {x : Int32} {st st' : List Value} (h : mj_St ad (.int x :: st) st') : ∃ t, st' = .int x :: t ∧ mj_St ad st t := by
  obtain ⟨w, t, rfl, h1, h2⟩ := mj_St_cons h
  exact ⟨t, by rw [mj_V_int h1], h2⟩
theorem mj_St_l {ad : Nat → Nat} {x : Int64} {st st' : List Value} (h : mj_St ad (.long x :: st) st') : ∃ t, st' = .long x :: t ∧ mj_St ad st t := by
  obtain ⟨w, t, rfl, h1, h2⟩ := mj_St_cons h
  exact ⟨t, by rw [mj_V_long h1], h2⟩
theorem mj_St_r {ad : Nat → Nat} {x : Nat} {st st' : List Value} (h : mj_St ad (.ref x :: st) st') : ∃ t, st' = .ref (ad x) :: t ∧ mj_St ad st t := by
  obtain ⟨w, t, rfl, h1, h2⟩ := mj_St_cons h
  exact ⟨t, by rw [mj_V_ref h1], h2⟩
theorem mj_St_p {ad : Nat → Nat} {v : Value} {st st' : List Value} (hv : mj_pl v = true) (h : mj_St ad (v :: st) st') : ∃ t, st' = mj_rl ad v :: t ∧ mj_St ad st t := by
  obtain ⟨w, t, rfl, h1, h2⟩ := mj_St_cons h
  exact ⟨t, by rw [mj_V_pl hv h1], h2⟩
theorem mj_tgt {pc : Nat} {t : Int} (h : 0 ≤ t) : (pc : Int) + (t - pc) = (t.toNat : Int) := by omega
theorem mj_I_set {h : mj_H} {cl : Bool} {H H1 : Heap} {a : Nat} {c : mj_C} (hI : mj_I E h cl H) (hz : H1.size = H.size) (hc : mj_cp c = true) (hP : va_P E.2.2.1 vwCl (mj_ws E (h.set a c)) H1) : mj_I E (h.set a c) cl H1 := by
  refine ⟨hP, ?_, fun q => ?_, fun d hd => ?_⟩
  · rw [List.length_set, hz]; exact hI.2.1
  · rw [List.length_set, hz]; exact hI.2.2.1 q
  · rcases List.mem_or_eq_of_mem_set hd with q | rfl
    · exact hI.2.2.2 d q
    · exact hc
theorem mj_I_new {h : mj_H} {H H1 : Heap} {c : mj_C} (hI : mj_I E h true H) (hz : H1.size = H.size + 1) (hc : mj_cp c = true) (hP : va_P E.2.2.1 vwCl (mj_ws E (h ++ [c])) H1) : mj_I E (h ++ [c]) true H1 := by
  have h1 := hI.2.2.1 rfl
  refine ⟨hP, ?_, fun _ => ?_, fun d hd => ?_⟩
  · rw [List.length_append, hz, h1]; simp; omega
  · rw [List.length_append, hz, h1]; simp; omega
  · rcases List.mem_append.mp hd with q | q
    · exact hI.2.2.2 d q
    · cases List.mem_singleton.mp q; exact hc
theorem mj_get_pl {h : mj_H} {cl : Bool} {H : Heap} {a ci k : Nat} {fs : List Value} {v : Value} (hI : mj_I E h cl H) (h1 : h[a]? = some (.inr (ci, fs))) (h2 : fs[k]? = some v) : mj_pl v = true :=
  List.all_eq_true.mp (hI.2.2.2 _ (List.mem_of_getElem? h1)) v (List.mem_of_getElem? h2)
theorem mj_put_cp {h : mj_H} {cl : Bool} {H : Heap} {a ci k : Nat} {fs : List Value} {v : Value} (hI : mj_I E h cl H) (h1 : h[a]? = some (.inr (ci, fs))) (hv : mj_pl v = true) : mj_cp (.inr (ci, fs.set k v)) = true := by
  refine List.all_eq_true.mpr fun u hu => ?_
  rcases List.mem_or_eq_of_mem_set hu with q | rfl
  · exact List.all_eq_true.mp (hI.2.2.2 _ (List.mem_of_getElem? h1)) u q
  · exact hv
theorem mj_new_cp (ci : Nat) : mj_cp (mj_new ci) = true := by
  refine List.all_eq_true.mpr fun u hu => ?_
  obtain ⟨k, -, rfl⟩ := List.mem_map.mp hu
  match ci with
  | 0 => show mj_pl (defaultValue (tyX0 k)) = true; unfold tyX0; split <;> rfl
  | 1 => show mj_pl (defaultValue (tyX1 k)) = true; unfold tyX1; split <;> rfl
  | 2 => show mj_pl (defaultValue (tyX2 k)) = true; unfold tyX2; split <;> rfl
  | 3 => show mj_pl (defaultValue (tyX3 k)) = true; unfold tyX3; split <;> rfl
  | 4 => show mj_pl (defaultValue (tyX5 k)) = true; unfold tyX5; split <;> rfl
  | 5 => show mj_pl (defaultValue (tyX7 k)) = true; unfold tyX7; split <;> rfl
  | 6 => show mj_pl (defaultValue (tyX8 k)) = true; unfold tyX8; split <;> rfl
  | 7 => show mj_pl (defaultValue (tyX9 k)) = true; unfold tyX9; split <;> rfl
  | 8 => show mj_pl (defaultValue (tyX10 k)) = true; unfold tyX10; split <;> rfl
  | 9 => show mj_pl (defaultValue (tyX11 k)) = true; unfold tyX11; split <;> rfl
  | n + 10 => show mj_pl (defaultValue (tyX12 k)) = true; unfold tyX12; split <;> rfl
/-- behind a call, however it has ended -/
theorem mj_call {H : Heap} {locs : List Loc} {cells slots : Nat} {Z : State → Prop} {mc ms pc : Nat} {ls : Array Slot} {st0 rest : List Value} {a : Array Value} {Q : mj_Q}
    (hr : vx_Run p l e R s m args below meth c H locs cells slots mc ms (F0 m pc ls st0) rest (mj_Qc E Q cap a) (mj_Xc E Q cap) (mj_A E)) (hS : va_S (mj_A E) s.heap H locs)
    (kx : ∀ (x : Nat) (h1 : mj_H) (cl1 : Bool) (ce : Cell) (q9 : Addr) (H1 : Heap) (locs1 : List Loc), Q (.inr x) h1 cl1 → x < 5 → mj_I E h1 cl1 H1 → h1.length ≤ cap → va_S (mj_A E) s.heap H1 locs1 → H1[q9]? = some ce → ce.vm = .none → s.vm.findClass (mj_xn x) = some ce.cls → vx_W p l e R s m args below meth c H1 locs1 (cells + mc) (slots + ms) Z (F0 m pc ls rest) q9)
    (kk : ∀ (r : Option Value) (h1 : mj_H) (cl1 : Bool) (H1 : Heap) (locs1 : List Loc), Q (.inl r) h1 cl1 → mj_I E h1 cl1 H1 → h1.length ≤ cap → va_S (mj_A E) s.heap H1 locs1 → (∀ v, r = some v → mj_pl v = true) → W p l e R s m args below meth c H1 locs1 (cells + mc) (slots + ms) Z (F0 m (pc + 3) ls ((r.map (mj_rl E.2.1)).toList ++ rest))) : W p l e R s m args below meth c H locs cells slots Z (F0 m pc ls st0) := by
  intro T hT X
  rcases hr T hT X with ⟨v, st₀, t, T', L, h0, X', hL, e1, e2, ⟨⟨r, h1, cl1, hQ, hv, hI, hcap, hrp⟩, hF⟩, st⟩ | ⟨q, st₀, t, T', L, X9, ce, h0, X', hL, e1, e2, ⟨⟨x, h1, cl1, hQ, hv, hx5, hI, hcap⟩, hF⟩, hce, hcv, hcl, st⟩
  · cases hv
    obtain ⟨k1, k2, k3⟩ := vx_keep h0 e1 hS (fun _ _ z => z) (fun _ z => z) hL hF
    obtain ⟨t2, a1, b1⟩ := kk r h1 cl1 T'.heap (locs ++ L) hQ (by rw [e1]; exact hI) hcap k3 hrp T' rfl X'
    exact ⟨t2, st t2 a1, b1⟩
  · subst hv
    obtain ⟨k1, k2, k3⟩ := vx_keep h0 e1 hS (fun _ _ z => z) (fun _ z => z) hL hF
    obtain ⟨t2, a1, b1⟩ := kx x h1 cl1 ce q T'.heap (locs ++ L) hQ hx5 (by rw [e1]; exact hI) hcap k3 (by rw [e1]; exact hce) hcv hcl T' rfl X'
    exact ⟨t2, st.trans a1, b1⟩
end MJS
