/-! ===== what is known of the machine at a start, and rows that write ===== -/
abbrev vwCl : List vw_C := [(RX0, TX0, 9), (RX1, TX1, 5), (RX2, TX2, 3), (RX3, TX3, 12), (RX5, TX5, 7), (RX7, TX7, 2), (RX8, TX8, 4), (RX9, TX9, 4), (RX10, TX10, 9), (RX11, TX11, 12), (RX12, TX12, 25)]
def mj_G : List Cond := lw_tbl.filter goodWord
theorem mj_G_of {w : Cond} (h : w ∈ lw_tbl) (g : goodWord w = true) : w ∈ mj_G := List.mem_filter.mpr ⟨h, g⟩
theorem mj_G_good : ∀ w ∈ mj_G, w ∈ mj_G ∧ ((w.onTables && w.keeps) = true ∨ ∃ ty, w = .arrayClass ty) := fun w h => ⟨h, good_of_word (List.mem_filter.mp h).2⟩
theorem mj_vw {ci : Nat} (h : ci < 11) : vwCl[ci]? = some (mj_cn ci, mj_T ci, mj_n ci) := by
  match ci, h with
  | 0, _ => rfl
  | 1, _ => rfl
  | 2, _ => rfl
  | 3, _ => rfl
  | 4, _ => rfl
  | 5, _ => rfl
  | 6, _ => rfl
  | 7, _ => rfl
  | 8, _ => rfl
  | 9, _ => rfl
  | 10, _ => rfl
  | n + 11, h => omega
theorem mj_uws_g : ∀ ci, ci < 11 → ∀ w ∈ u_ws (mj_cn ci) (mj_T ci) (mj_n ci), goodWord w = true := by decide +kernel
theorem mj_uws {ci : Nat} (h : ci < 11) : ∀ w ∈ u_ws (mj_cn ci) (mj_T ci) (mj_n ci), w ∈ mj_G := by
  intro w hw
  refine mj_G_of ?_ (mj_uws_g ci h w hw)
  match ci, h, hw with
  | 0, _, hw => exact inX0 w hw
  | 1, _, hw => exact inX1 w hw
  | 2, _, hw => exact inX2 w hw
  | 3, _, hw => exact inX3 w hw
  | 4, _, hw => exact inX5 w hw
  | 5, _, hw => exact inX7 w hw
  | 6, _, hw => exact inX8 w hw
  | 7, _, hw => exact inX9 w hw
  | 8, _, hw => exact inX10 w hw
  | 9, _, hw => exact inX11 w hw
  | 10, _, hw => exact inX12 w hw
  | n + 11, h, _ => omega
theorem mj_ty_ok : ∀ ci, ci < 11 → ∀ k, k < mj_n ci → parseFieldDescriptor (mj_T ci k).2.2.1 = some (mj_ty ci k) := by decide +kernel
theorem mj_nm_ok : ∀ ci, ci < 11 → ∀ a, a < mj_n ci → ∀ b, b < mj_n ci → a ≠ b → (mj_T ci a).2.1 ≠ (mj_T ci b).2.1 := by decide +kernel
def mj_tys (E : mj_E) : List (ClassId × FieldType) := [(E.2.2.2 0, .int), (E.2.2.2 1, .boolean), (E.2.2.2 2, .long), (E.2.2.2 3, .object "OsierHolt$Holt")]
def mj_A (E : mj_E) : Nat → Prop := fun q => E.1 ≤ q
theorem mj_fits_rl {ad : Nat → Nat} {ty : FieldType} {v : Value} (h : fits ty v = true) : fits ty (mj_rl ad v) = true := by
  cases v <;> first | exact h | (cases ty <;> first | exact h | (revert h; unfold mj_rl fits; simp))
theorem mj_narrow_rl {ad : Nat → Nat} {ty : FieldType} {v : Value} (h : narrow ty v = v) : narrow ty (mj_rl ad v) = mj_rl ad v := by
  cases v <;> first | exact h | (cases ty <;> rfl)
section MJR
variable {p : Program} {l : Launch} {e : Env} {R : Room} {s : State} {m : MethodId} {args : Array Value} {below : List Frame} {meth : Method} {c : Code} {H : Heap} {locs : List Loc} {cells slots : Nat} {Q : State → Prop}
variable {cc : ByteArray} {pc : Nat} {ls : Array Slot} {rest : List Value} {E : mj_E} {h : mj_H} {a : Nat}
theorem mj_P_set {D : va_G} {cl : List vw_C} {A : Nat → Prop} {ws : va_W} {H H1 : Heap} {k : Nat} {q : Nat} {e e' : va_E} (hP : va_P D cl ws H) (hD : va_D A ws) (he : ws[k]? = some (q, e)) (hn : va_at D cl (q, e') H1) (hq : ∀ x : Nat, x ≠ q → H1[x]? = H[x]?) : va_P D cl (ws.set k (q, e')) H1 := hP.set hD he hn hq
theorem mj_put (hexec : p.tables.exec = Jvm.exec) (hb : c.code = cc) {own : String} {index ci k : Nat} {fs : List Value} {v : Value} (hci : ci < 11) (hk : k < mj_n ci) (hts : ∀ w ∈ mj_G, w.before args s = true) (hown : s.vm.findClass own = some m.cls)
    (hK : va_K E.2.2.1 vwCl (mj_tys E) s) (hP : va_P E.2.2.1 vwCl (mj_ws E h) H) (hS : va_S (mj_A E) s.heap H locs) (ha : h[a]? = some (.inr (ci, fs))) (hl : k < fs.length)
    (hlink : (Cond.fieldLink own index (mj_T ci k).1 (mj_T ci k).2.1 (mj_T ci k).2.2.1).before args s = true) (hfin : (mj_T ci k).2.2.2 = false ∨ (meth.name = "<init>" ∧ (mj_T ci k).1 = own))
    (hn : narrow (mj_ty ci k) v = v) (hfit : fits (mj_ty ci k) v = true) (hdg : decode cc pc = .ok (.putfield index, 3))
    (kk : ∀ (H1 : Heap) (locs1 : List Loc), H1.size = H.size → va_P E.2.2.1 vwCl (mj_ws E (h.set a (.inr (ci, fs.set k v)))) H1 → va_S (mj_A E) s.heap H1 locs1 → W p l e R s m args below meth c H1 locs1 cells slots Q (F0 m (pc + 3) ls rest)) : W p l e R s m args below meth c H locs cells slots Q (F0 m pc ls (mj_rl E.2.1 v :: .ref (E.1 + a) :: rest)) := by
  have hc := mj_vw hci
  have hin := mj_uws hci
  have hap := va_apart (own := own) hts hin (mj_ty ci) (mj_ty_ok ci hci) (mj_nm_ok ci hci) hK hc
  have he := mj_ws_at (E := E) ha
  have hD := mj_ws_D E h
  have hn' := mj_narrow_rl (ad := E.2.1) hn
  have hfit' := mj_fits_rl (ad := E.2.1) hfit
  have hd := mj_ty_ok ci hci k hk
  obtain ⟨r, h1, cell, q1, q2, q3, q4⟩ := hP a _ he
  have hr : r = (mj_cn ci, mj_T ci, mj_n ci) := Option.some.inj (h1.symm.trans hc)
  subst hr
  obtain ⟨hS2, hfc, kC, hkC, hkind⟩ := hK.1 ci _ hc
  obtain ⟨cf, kf, fi, f, hi, hsl⟩ := hS2 k hk
  have hlay := hts _ (hin _ (u_in_lay hk))
  have hst := (u_facts hfc hkC (u_lays hts hin hk) hi).1
  have fin : ∀ H' : Heap, H'[E.1 + a]? = some (cell.setSlot f.slot (mj_rl E.2.1 v)) → H'.size = H.size → (∀ q, q ≠ E.1 + a → H'[q]? = H[q]?) → W p l e R s m args below meth c H' (locs ++ [⟨E.1 + a, f.slot⟩]) cells slots Q (F0 m (pc + 3) ls rest) := by
    intro H' e1 e2 e3
    rw [hsl] at e1 ⊢
    refine kk H' _ e2 ?_ (hS.put e2 e3 (hD.2 a _ he))
    rw [← mj_ws_set]
    refine mj_P_set hP hD he ?_ e3
    refine ⟨_, hc, ?_⟩
    show t_OB _ _ _ _ _ (vp_V ((fs.set k v).map (mj_rl E.2.1)))
    rw [List.map_set]
    exact t_OB.to (V := updV (vp_V (fs.map (mj_rl E.2.1))) k (mj_rl E.2.1 v)) ⟨_, e1, q2, q3, t_set q4 hap hk (mj_rl E.2.1 v)⟩ (fun j _ => vp_updV_set (by rw [List.length_map]; exact hl) _ j)
  cases hF : (mj_T ci k).2.2.2 with
  | false =>
    unfold u_lay at hlay
    rw [if_neg (by rw [hF]; decide)] at hlay
    have h6 := u_store hfc hkC hkind hlay hi hd hn' hfit'
    exact W.putK hexec hb (f := f) ⟨hown, hlink, ⟨_, _, _, hi⟩, hst⟩ (by rw [q2]; exact h6) q1 q3 (by rw [hsl]; exact k2_hasslot (q4 k hk)) rfl rfl hdg fin
  | true =>
    obtain ⟨hin2, hdecl⟩ : meth.name = "<init>" ∧ (mj_T ci k).1 = own := by
      rcases hfin with q | q
      · rw [hF] at q; cases q
      · exact q
    unfold u_lay at hlay
    rw [if_pos hF] at hlay
    have hcf : m.cls = cf := by
      obtain ⟨_, _, c', _, _, _, -, -, hf', -, -, -, hown2, -⟩ := Cond.laysFinal_spec hlay
      have e1 : c' = cf := by have := hi.symm.trans hf'; simp at this; exact this.1.symm
      rw [hdecl] at hown2
      rw [← e1]; exact Option.some.inj (hown.symm.trans hown2)
    have h6 := u_fits hfc hkC hkind (Or.inr hlay) hi hd hn' hfit'
    exact W.putFinK hexec hb hown hlink hi hst hcf hin2 (by rw [q2]; exact h6) q1 q3 (by rw [hsl]; exact k2_hasslot (q4 k hk)) rfl rfl hdg fin
theorem mj_rx_i (ad : Nat → Nat) (n : Nat) (f : Nat → Int32) : mj_rx ad (n, .inl f) = (n, .inl f) := rfl
theorem mj_iast (hexec : p.tables.exec = Jvm.exec) (hb : c.code = cc) (hK : va_K E.2.2.1 vwCl (mj_tys E) s) (hP : va_P E.2.2.1 vwCl (mj_ws E h) H) (hS : va_S (mj_A E) s.heap H locs) {n : Nat} {f : Nat → Int32} (ha : h[a]? = some (.inl (0, n, .inl f))) {i x : Int32} (hin : vp_in i n) (hdg : decode cc pc = .ok (.iastore, 1))
    (kk : ∀ (H1 : Heap) (locs1 : List Loc), H1.size = H.size → va_P E.2.2.1 vwCl (mj_ws E (h.set a (.inl (0, n, .inl (upd f i.toNatClampNeg x))))) H1 → va_S (mj_A E) s.heap H1 locs1 → W p l e R s m args below meth c H1 locs1 cells slots Q (F0 m (pc + 1) ls rest)) : W p l e R s m args below meth c H locs cells slots Q (F0 m pc ls (.int x :: .int i :: .ref (E.1 + a) :: rest)) := by
  have he := mj_ws_at (E := E) ha
  have hD := mj_ws_D E h
  refine W.iast hexec hb (hP a _ he) ((hK.2 0 _ rfl).1 n (fun j => .int (f j))) (fun q => by cases q) (by show ¬ (i < 0 ∨ (arrV _ _ _).slots.size ≤ _); rw [arrV_size]; exact hin) rfl rfl hdg fun H1 e z oq => ?_
  refine kk H1 _ z ?_ (hS.put z oq (hD.2 a _ he))
  rw [← mj_ws_set]
  refine mj_P_set hP hD he ?_ oq
  show H1[E.1 + a]? = some (vp_cell (E.2.2.2 0) (n, .inl (upd f i.toNatClampNeg x)))
  rw [e]
  show some ((vp_cell (E.2.2.2 0) (n, .inl f)).setSlot _ _) = _
  rw [vp_cell_i, vp_cell_i, arrV_store]
  congr 2
  funext q
  by_cases hq : q = i.toNatClampNeg
  · subst hq
    simp [updV, upd]
  · simp [updV, upd, hq]
theorem mj_zast (hexec : p.tables.exec = Jvm.exec) (hb : c.code = cc) (hK : va_K E.2.2.1 vwCl (mj_tys E) s) (hP : va_P E.2.2.1 vwCl (mj_ws E h) H) (hS : va_S (mj_A E) s.heap H locs) {n : Nat} {f : Nat → Int32} (ha : h[a]? = some (.inl (1, n, .inl f))) {i x : Int32} (hin : vp_in i n) (hdg : decode cc pc = .ok (.bastore, 1))
    (kk : ∀ (H1 : Heap) (locs1 : List Loc), H1.size = H.size → va_P E.2.2.1 vwCl (mj_ws E (h.set a (.inl (1, n, .inl (upd f i.toNatClampNeg (vp_nar .boolean x)))))) H1 → va_S (mj_A E) s.heap H1 locs1 → W p l e R s m args below meth c H1 locs1 cells slots Q (F0 m (pc + 1) ls rest)) : W p l e R s m args below meth c H locs cells slots Q (F0 m pc ls (.int x :: .int i :: .ref (E.1 + a) :: rest)) := by
  have he := mj_ws_at (E := E) ha
  have hD := mj_ws_D E h
  refine W.zast hexec hb (hP a _ he) ((hK.2 1 _ rfl).1 n (fun j => .int (f j))) (fun q => by cases q) (by show ¬ (i < 0 ∨ (arrV _ _ _).slots.size ≤ _); rw [arrV_size]; exact hin) rfl rfl hdg fun H1 e z oq => ?_
  refine kk H1 _ z ?_ (hS.put z oq (hD.2 a _ he))
  rw [← mj_ws_set]
  refine mj_P_set hP hD he ?_ oq
  show H1[E.1 + a]? = some (vp_cell (E.2.2.2 1) (n, .inl (upd f i.toNatClampNeg (vp_nar .boolean x))))
  rw [e]
  show some ((vp_cell (E.2.2.2 1) (n, .inl f)).setSlot _ _) = _
  rw [vp_cell_i, vp_cell_i, arrV_store]
  congr 2
  funext q
  by_cases hq : q = i.toNatClampNeg
  · subst hq
    simp [updV, upd, vp_nar]
    try rfl
  · simp [updV, upd, hq]
theorem mj_last (hexec : p.tables.exec = Jvm.exec) (hb : c.code = cc) (hK : va_K E.2.2.1 vwCl (mj_tys E) s) (hP : va_P E.2.2.1 vwCl (mj_ws E h) H) (hS : va_S (mj_A E) s.heap H locs) {n : Nat} {f : Nat → Int64} (ha : h[a]? = some (.inl (2, n, .inr (.inl f)))) {i : Int32} {x : Int64} (hin : vp_in i n) (hdg : decode cc pc = .ok (.lastore, 1))
    (kk : ∀ (H1 : Heap) (locs1 : List Loc), H1.size = H.size → va_P E.2.2.1 vwCl (mj_ws E (h.set a (.inl (2, n, .inr (.inl (vp_updL f i.toNatClampNeg x)))))) H1 → va_S (mj_A E) s.heap H1 locs1 → W p l e R s m args below meth c H1 locs1 cells slots Q (F0 m (pc + 1) ls rest)) : W p l e R s m args below meth c H locs cells slots Q (F0 m pc ls (.long x :: .int i :: .ref (E.1 + a) :: rest)) := by
  have he := mj_ws_at (E := E) ha
  have hD := mj_ws_D E h
  refine W.last hexec hb (hP a _ he) ((hK.2 2 _ rfl).1 n (fun j => .long (f j))) (fun q => by cases q) (by show ¬ (i < 0 ∨ (arrV _ _ _).slots.size ≤ _); rw [arrV_size]; exact hin) rfl rfl hdg fun H1 e z oq => ?_
  refine kk H1 _ z ?_ (hS.put z oq (hD.2 a _ he))
  rw [← mj_ws_set]
  refine mj_P_set hP hD he ?_ oq
  show H1[E.1 + a]? = some (vp_cell (E.2.2.2 2) (n, .inr (.inl (vp_updL f i.toNatClampNeg x))))
  rw [e]
  show some ((vp_cell (E.2.2.2 2) (n, .inr (.inl f))).setSlot _ _) = _
  rw [vp_cell_l, vp_cell_l, arrV_store]
  congr 2
  funext q
  by_cases hq : q = i.toNatClampNeg
  · subst hq
    simp [updV, vp_updL]
  · simp [updV, vp_updL, hq]
theorem mj_aast (hexec : p.tables.exec = Jvm.exec) (hb : c.code = cc) (hK : va_K E.2.2.1 vwCl (mj_tys E) s) (hP : va_P E.2.2.1 vwCl (mj_ws E h) H) (hS : va_S (mj_A E) s.heap H locs) {n k : Nat} {vs : List Value} {f : Nat → Option Nat} (ha : h[a]? = some (.inl (3, n, .inr (.inr (.inr (.inr f)))))) (hv : h[k]? = some (.inr (3, vs))) (had : E.2.1 k = E.1 + k) {i : Int32} (hin : vp_in i n) (hdg : decode cc pc = .ok (.aastore, 1))
    (kk : ∀ (H1 : Heap) (locs1 : List Loc), H1.size = H.size → va_P E.2.2.1 vwCl (mj_ws E (h.set a (.inl (3, n, .inr (.inr (.inr (.inr (va_up f i.toNatClampNeg (some k)))))))))  H1 → va_S (mj_A E) s.heap H1 locs1 → W p l e R s m args below meth c H1 locs1 cells slots Q (F0 m (pc + 1) ls rest)) : W p l e R s m args below meth c H locs cells slots Q (F0 m pc ls (.ref (E.1 + k) :: .int i :: .ref (E.1 + a) :: rest)) := by
  have he := mj_ws_at (E := E) ha
  have hv' := mj_ws_at (E := E) hv
  have hD := mj_ws_D E h
  have hlt : i.toNatClampNeg < n := Nat.not_le.mp fun q => hin (Or.inr q)
  have h0 : ¬ i < 0 := fun q => hin (Or.inl q)
  obtain ⟨r', hr', cellV, g1, g2, g3, -⟩ := hP k _ hv'
  have hcls := (hK.1 3 _ (mj_vw (ci := 3) (by decide))).2
  obtain ⟨kA, comp, k1, k2, k3, -⟩ := (hK.2 3 _ rfl).2
  have hcomp : comp = E.2.2.1.1 3 := Option.some.inj (k3.symm.trans hcls.1)
  subst hcomp
  obtain ⟨kC, hkC, -⟩ := hcls.2
  refine W.aast hexec hb (hP a _ he) (fun q h => by cases h) (fun h => by cases h) k1 k2 rfl hkC ⟨h0, by show _ < (arrV _ _ _).slots.size; rw [arrV_size]; exact hlt⟩ g1 (fun q h => by rw [g3] at h; cases h) (by rw [g2]; exact hkC) (by rw [g2]; exact va_assign hcls) rfl rfl hdg fun H1 e z oq => ?_
  refine kk H1 _ z ?_ (hS.put z oq (hD.2 a _ he))
  rw [← mj_ws_set]
  refine mj_P_set hP hD he ?_ oq
  show H1[E.1 + a]? = some (vp_cell (E.2.2.2 3) (n, .inr (.inr (.inr (.inr (fun j => (va_up f i.toNatClampNeg (some k) j).map E.2.1))))))
  rw [e]
  show some ((vp_cell (E.2.2.2 3) (n, .inr (.inr (.inr (.inr (fun j => (f j).map E.2.1)))))).setSlot _ _) = _
  rw [vp_cell_q, vp_cell_q, arrV_store]
  congr 2
  funext q
  by_cases hq : q = i.toNatClampNeg
  · subst hq
    simp [updV, va_up, va_rf, had]
  · simp [updV, va_up, hq]
end MJR
section MJR2
variable {p : Program} {l : Launch} {e : Env} {R : Room} {s : State} {m : MethodId} {args : Array Value} {below : List Frame} {meth : Method} {c : Code} {H : Heap} {locs : List Loc} {cells slots : Nat} {Q : State → Prop}
variable {cc : ByteArray} {pc : Nat} {ls : Array Slot} {rest : List Value} {E : mj_E} {h : mj_H} {a : Nat}
theorem mj_copy (hexec : p.tables.exec = Jvm.exec) (hb : c.code = cc) (hml : c.maxLocals = ls.size) {own : String} {index : Nat} (hown : s.vm.findClass own = some m.cls) (hlink : (Cond.methodLink own index arraycopyName).before args s = true) (hnat : (Cond.native arraycopyName).before args s = true) (hstat : (Cond.static arraycopyName).before args s = true) (hini : (Cond.initialized "java/lang/System").before args s = true)
    (hK : va_K E.2.2.1 vwCl (mj_tys E) s) (hP : va_P E.2.2.1 vwCl (mj_ws E h) H) (hS : va_S (mj_A E) s.heap H locs) {b n0 n1 : Nat} {f g : Nat → Int32} (ha0 : h[b]? = some (.inl (0, n0, .inl f))) (ha1 : h[a]? = some (.inl (0, n1, .inl g)))
    {sp dp n : Int32} (h1 : ¬ sp < 0) (h2 : ¬ dp < 0) (h3 : ¬ n < 0) (h4 : sp.toNatClampNeg + n.toNatClampNeg ≤ n0) (h5 : dp.toNatClampNeg + n.toNatClampNeg ≤ n1)
    (hframes : 1 ≤ R.frames) (hlocals : (rest.map fun v => v.category).sum + (nativeFrameWords "java/lang/System" "arraycopy" 5 + 11) ≤ R.locals) (hdg : decode cc pc = .ok (.invokestatic index, 3))
    (kk : ∀ (H1 : Heap) (locs1 : List Loc), H1.size = H.size → va_P E.2.2.1 vwCl (mj_ws E (h.set a (.inl (0, n1, .inl (va_cpy f g sp.toNatClampNeg dp.toNatClampNeg n.toNatClampNeg))))) H1 → va_S (mj_A E) s.heap H1 locs1 → W p l e R s m args below meth c H1 locs1 cells slots Q (F0 m (pc + 3) ls rest)) : W p l e R s m args below meth c H locs cells slots Q (F0 m pc ls (.int n :: .int dp :: .ref (E.1 + a) :: .int sp :: .ref (E.1 + b) :: rest)) := by
  have he0 := mj_ws_at (E := E) ha0
  have he1 := mj_ws_at (E := E) ha1
  have hD := mj_ws_D E h
  have nn : ∀ z : Int32, ¬ z < 0 → z.toInt = (z.toNatClampNeg : Int) := by
    intro z hz
    have hz0 : (0 : Int) ≤ z.toInt := by
      have := Int32.not_lt.mp hz
      simpa using Int32.le_iff_toInt_le.mp this
    show z.toInt = ((z.toInt.toNat : Nat) : Int)
    omega
  intro T hT X
  have hc0 : H[E.1 + b]? = some (vp_cell (E.2.2.2 0) (n0, .inl f)) := hP b _ he0
  have hc1 : H[E.1 + a]? = some (vp_cell (E.2.2.2 0) (n1, .inl g)) := hP a _ he1
  obtain ⟨-, k0, hk0, cm0, hkk0⟩ := (hK.2 0 _ rfl).1 n0 (fun j => .int (f j))
  obtain ⟨-, k1, hk1, cm1, hkk1⟩ := (hK.2 0 _ rfl).1 n1 (fun j => .int (g j))
  obtain ⟨vm', X', step⟩ := X.arraycopy hexec hown hlink hnat hstat hini (src := E.1 + b) (dst := E.1 + a) (cs := vp_cell (E.2.2.2 0) (n0, .inl f)) (cd := vp_cell (E.2.2.2 0) (n1, .inl g)) (srcPos := sp) (destPos := dp) (n := n) (by rw [hT]; exact hc0) (by rw [hT]; exact hc1)
    (fun _ h => by cases h) (fun _ h => by cases h) (fun h => by cases h) (fun h => by cases h) hk0 hk1 hkk0 hkk1 (by simp [refKind]) h1 h2 h3
    (by rw [nn sp h1, nn n h3]; show ¬ _ > ((arrV (E.2.2.2 0) n0 (fun j => .int (f j))).slots.size : Int); rw [arrV_size]; omega)
    (by rw [nn dp h2, nn n h3]; show ¬ _ > ((arrV (E.2.2.2 0) n1 (fun j => .int (g j))).slots.size : Int); rw [arrV_size]; omega)
    (fun vm₁ _ i hi => by
      have e : (vp_cell (E.2.2.2 0) (n0, .inl f)).slots.getD (sp.toNatClampNeg + i) .null = .int (f (sp.toNatClampNeg + i)) := by
        show (arrV (E.2.2.2 0) n0 (fun j => .int (f j))).slots.getD _ _ = _
        rw [Array.getD_eq_getD_getElem?, arrV_read _ _ (by omega)]
        rfl
      refine ⟨?_, ?_⟩
      · rw [e]
        rfl
      · rw [e]
        exact trivial)
    (g := F0 m pc ls (.int n :: .int dp :: .ref (E.1 + a) :: .int sp :: .ref (E.1 + b) :: rest)) rfl (by rw [hml]) (rest := rest) rfl (by rw [hb]; exact hdg) hframes (by show 2 * 0 + _ + _ ≤ _; omega)
  have e1 : copied (vp_cell (E.2.2.2 0) (n0, .inl f)) (vp_cell (E.2.2.2 0) (n1, .inl g)) sp dp n = vp_cell (E.2.2.2 0) (n1, .inl (va_cpy f g sp.toNatClampNeg dp.toNatClampNeg n.toNatClampNeg)) := va_copied (fun z => .int z) (E.2.2.2 0) (E.2.2.2 0) f g h4
  rw [e1] at X' step
  have hl : E.1 + a < H.size := (Array.getElem?_eq_some_iff.mp hc1).1
  have hheap : ((T.setVm vm').setCell (E.1 + a) (vp_cell (E.2.2.2 0) (n1, .inl (va_cpy f g sp.toNatClampNeg dp.toNatClampNeg n.toNatClampNeg)))).heap = H.setIfInBounds (E.1 + a) (vp_cell (E.2.2.2 0) (n1, .inl (va_cpy f g sp.toNatClampNeg dp.toNatClampNeg n.toNatClampNeg))) := by rw [← hT]; rfl
  have oq : ∀ q : Nat, q ≠ E.1 + a → (H.setIfInBounds (E.1 + a) (vp_cell (E.2.2.2 0) (n1, .inl (va_cpy f g sp.toNatClampNeg dp.toNatClampNeg n.toNatClampNeg))))[q]? = H[q]? := fun q hq => by simp [Array.getElem?_setIfInBounds, Ne.symm hq]
  obtain ⟨t, a1, b1⟩ := kk _ _ (by simp) (by
      rw [← mj_ws_set]
      exact mj_P_set hP hD he1 (show (H.setIfInBounds (E.1 + a) _)[E.1 + a]? = some _ by simp [Array.getElem?_setIfInBounds, hl, mj_rc, mj_rx]) oq) ⟨by simp; exact hS.1, fun q g1 g2 => by
      rw [oq q (fun e => g2 (by rw [e]; exact hD.2 a _ he1))]
      exact hS.2.1 q g1 g2, fun q hq => by
      rcases List.mem_append.mp hq with h | h
      · exact hS.2.2 q h
      · obtain ⟨z, -, hz⟩ := List.mem_map.mp h
        rw [← hz]
        exact hD.2 a _ he1⟩ _ hheap X'
  exact ⟨t, step t a1, b1⟩
theorem mj_P_new {D : va_G} {E : mj_E} {h : mj_H} {H H1 : Heap} {cn : mj_C} (hP : va_P D vwCl (mj_ws E h) H) (hz : H.size = E.1 + h.length) (hq : ∀ q, q < H.size → H1[q]? = H[q]?) (hn : va_at D vwCl (E.1 + h.length, mj_rc E.2.1 E.2.2.2 cn) H1) : va_P D vwCl (mj_ws E (h ++ [cn])) H1 := by
  rw [← mj_ws_app]
  refine va_P.app (hP.kept fun k q hk => hq _ (hP k q hk).lt) ?_
  intro k x hx
  have hz : k < 1 := (List.getElem?_eq_some_iff.mp hx).1
  rw [show k = 0 by omega] at hx
  cases hx
  exact hn
theorem mj_newo {own : String} {index ci : Nat} (hexec : p.tables.exec = Jvm.exec) (hb : c.code = cc) (hci : ci < 11) (hts : ∀ w ∈ mj_G, w.before args s = true) (hown : s.vm.findClass own = some m.cls) (hcl : (Cond.classLink own index (mj_cn ci)).before args s = true) (hinst : (Cond.instantiable (mj_cn ci) (mj_n ci)).before args s = true) (hini : (Cond.initialized (mj_cn ci)).before args s = true)
    (hK : va_K E.2.2.1 vwCl (mj_tys E) s) (hP : va_P E.2.2.1 vwCl (mj_ws E h) H) (hS : va_S (mj_A E) s.heap H locs) (hz : H.size = E.1 + h.length) (hcells : cells + 1 ≤ R.cells) (hslots : slots + mj_n ci ≤ R.slots) (hdg : decode cc pc = .ok (.new index, 3))
    (kk : ∀ (H1 : Heap), H1.size = H.size + 1 → va_P E.2.2.1 vwCl (mj_ws E (h ++ [mj_new ci])) H1 → va_S (mj_A E) s.heap H1 locs → W p l e R s m args below meth c H1 locs (cells + 1) (slots + mj_n ci) Q (F0 m (pc + 3) ls (.ref (E.1 + h.length) :: rest))) : W p l e R s m args below meth c H locs cells slots Q (F0 m pc ls rest) := by
  have hc := mj_vw hci
  have hin := mj_uws hci
  have hKn := hK.1 ci _ hc
  refine W.newcK hexec hb hown hcl hinst hini rfl hdg hcells hslots hKn.2.1 hz fun H1 kC hkC e1 z1 o1 => ?_
  have o2 : ∀ q, q < H.size → H1[q]? = H[q]? := fun q hq => o1 q (by omega)
  refine kk H1 (by omega) (mj_P_new hP hz o2 ?_) ⟨Nat.le_trans hS.1 (by omega), fun x h1 h2 => (o2 x (Nat.lt_of_lt_of_le h1 hS.1)).trans (hS.2.1 x h1 h2), hS.2.2⟩
  refine ⟨_, hc, (u_born (mj_ty ci) hts hin hKn hkC e1 (mj_ty_ok ci hci)).to fun j hj => ?_⟩
  show defaultValue (mj_ty ci j) = vp_V (((List.range (mj_n ci)).map (fun k => defaultValue (mj_ty ci k))).map (mj_rl E.2.1)) j
  have : (((List.range (mj_n ci)).map (fun k => defaultValue (mj_ty ci k))).map (mj_rl E.2.1))[j]? = some (mj_rl E.2.1 (defaultValue (mj_ty ci j))) := by
    rw [List.getElem?_map, List.getElem?_map, List.getElem?_range hj]; rfl
  unfold vp_V
  rw [List.getD_eq_getElem?_getD, this]
  show _ = mj_rl E.2.1 (defaultValue (mj_ty ci j))
  cases mj_ty ci j <;> rfl
theorem mj_newa (hexec : p.tables.exec = Jvm.exec) (hb : c.code = cc) {atype : ArrayType} {t : Nat} {ty : FieldType} (harr : (Cond.arrayClass (newarray.typeOf atype)).before args s = true) (hty : newarray.typeOf atype = ty) (ht : (mj_tys E)[t]? = some (E.2.2.2 t, ty)) (hobj : ∀ C, ty ≠ .object C)
    (hK : va_K E.2.2.1 vwCl (mj_tys E) s) (hP : va_P E.2.2.1 vwCl (mj_ws E h) H) (hS : va_S (mj_A E) s.heap H locs) (hz : H.size = E.1 + h.length) {n : Nat} {ct : (Nat → Int32) ⊕ (Nat → Int64) ⊕ (Nat → UInt32) ⊕ (Nat → UInt64) ⊕ (Nat → Option Nat)} (ha : ∀ cA : ClassId, vp_cell cA (mj_rx E.2.1 (n, ct)) = arrV cA n (fun _ => defaultValue ty)) (hn : n < 10000) (hcb : componentBytes ty ≤ 8)
    (hcells : cells + 1 ≤ R.cells) (hslots : slots + n ≤ R.slots) (hdg : decode cc pc = .ok (.newarray atype, 2))
    (kk : ∀ (H1 : Heap), H1.size = H.size + 1 → va_P E.2.2.1 vwCl (mj_ws E (h ++ [.inl (t, n, ct)])) H1 → va_S (mj_A E) s.heap H1 locs → W p l e R s m args below meth c H1 locs (cells + 1) (slots + n) Q (F0 m (pc + 2) ls (.ref (E.1 + h.length) :: rest))) : W p l e R s m args below meth c H locs cells slots Q (F0 m pc ls (.int (nI n) :: rest)) := by
  subst hty
  have hnn : (nI n).toNatClampNeg = n := nI_clamp (by omega)
  refine va_newaK hexec hb harr rfl hdg rfl (nI_pos (by omega)) hnn (by have := Nat.mul_le_mul (Nat.le_of_lt hn) hcb; omega) hcells hslots hz fun H1 cA e1 z1 o1 hAr hNm => ?_
  have o2 : ∀ q, q < H.size → H1[q]? = H[q]? := fun q hq => o1 q (by omega)
  have hcA : cA = E.2.2.2 t := by
    have h3 := (hK.2 t _ ht).2
    have h4 : s.vm.findClass ("[" ++ (newarray.typeOf atype).toString) = some (E.2.2.2 t) := by
      revert h3
      unfold va_RA
      split
      · rename_i C e9
        exact absurd e9 (hobj C)
      · exact id
    exact Option.some.inj (hNm.symm.trans h4)
  refine kk H1 (by omega) (mj_P_new hP hz o2 ?_) ⟨Nat.le_trans hS.1 (by omega), fun x h1 h2 => (o2 x (Nat.lt_of_lt_of_le h1 hS.1)).trans (hS.2.1 x h1 h2), hS.2.2⟩
  show H1[E.1 + h.length]? = some (vp_cell (E.2.2.2 t) (mj_rx E.2.1 (n, ct)))
  rw [ha, ← hcA]
  exact e1
theorem mj_newq (hexec : p.tables.exec = Jvm.exec) (hb : c.code = cc) {own : String} {index : Nat} (hown : s.vm.findClass own = some m.cls) (hclink : (Cond.classLink own index "OsierHolt$Holt").before args s = true) (hover : va_AO "OsierHolt$Holt" s)
    (hK : va_K E.2.2.1 vwCl (mj_tys E) s) (hP : va_P E.2.2.1 vwCl (mj_ws E h) H) (hS : va_S (mj_A E) s.heap H locs) (hz : H.size = E.1 + h.length) {n : Nat} (hn : n < 10000)
    (hcells : cells + 1 ≤ R.cells) (hslots : slots + n ≤ R.slots) (hdg : decode cc pc = .ok (.anewarray index, 3))
    (kk : ∀ (H1 : Heap), H1.size = H.size + 1 → va_P E.2.2.1 vwCl (mj_ws E (h ++ [.inl (3, n, .inr (.inr (.inr (.inr (fun _ => none)))))])) H1 → va_S (mj_A E) s.heap H1 locs → W p l e R s m args below meth c H1 locs (cells + 1) (slots + n) Q (F0 m (pc + 3) ls (.ref (E.1 + h.length) :: rest))) : W p l e R s m args below meth c H locs cells slots Q (F0 m pc ls (.int (nI n) :: rest)) := by
  have hnn : (nI n).toNatClampNeg = n := nI_clamp (by omega)
  refine W.anew hexec hb hown hclink (va_AO.use hover) rfl hdg rfl (nI_pos (by omega)) (by rw [hnn]; omega) hcells (by rw [hnn]; exact hslots) fun cA kA comp f1 f2 f3 f4 => ?_
  rw [hnn]
  obtain ⟨kA', comp', g1, g2, g3, g4⟩ := (hK.2 3 _ rfl).2
  have hcA : cA = E.2.2.2 3 := Option.some.inj (f1.symm.trans g4)
  generalize hH1 : H.push ({ cls := cA, slots := Array.replicate n .null, vm := .none } : Cell) = H1
  have z1 : H1.size = H.size + 1 := by rw [← hH1, Array.size_push]
  have e1 : H1[H.size]? = some (arrV cA n (fun _ => .null)) := by rw [← hH1, Array.getElem?_push_size, ← arrV_new]
  have o2 : ∀ q : Nat, q < H.size → H1[q]? = H[q]? := fun q hq => by rw [← hH1, Array.getElem?_push, if_neg (Nat.ne_of_lt hq)]
  rw [hz]
  refine kk H1 z1 (mj_P_new hP hz o2 ?_) ⟨Nat.le_trans hS.1 (by omega), fun x h1 h2 => (o2 x (Nat.lt_of_lt_of_le h1 hS.1)).trans (hS.2.1 x h1 h2), hS.2.2⟩
  show H1[E.1 + h.length]? = some (vp_cell (E.2.2.2 3) (n, .inr (.inr (.inr (.inr (fun j => ((none : Option Nat)).map E.2.1))))))
  rw [← hcA, ← hz, e1, vp_cell_q]
  rfl
end MJR2
