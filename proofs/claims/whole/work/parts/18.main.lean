section MJM
variable {p : Program} {l : Launch} {e : Env} {R : Room} {s : State} {m : MethodId} {args : Array Value} {below : List Frame} {meth : Method} {c : Code}
variable {E : mj_E} {sc : Nat × (Nat → Int32)} {sx sv : Nat → Nat} {n cap : Nat}
theorem mj_catch {own pc : Nat} {cells slots : Nat} {H : Heap} {locs : List Loc} {ls : Array Slot} {rest : List Value} {Q : mj_Q} {hh : List (Nat × Nat × Nat × Nat)} {hd : List (Nat × Nat × Nat × Nat)} {x q : Nat} {ce : Cell} {h : mj_H} {cl : Bool}
    (hK : mj_K E sc sx sv s s.heap) (hts : ∀ w ∈ mj_G, w.before args s = true) (hown : s.vm.findClass (mj_cn own) = some m.cls) (hlocks : meth.locks = false)
    (htab : c.exceptionTable.toList = tableOf hh) (hdx : hd = hh.map (fun e => (e.1, e.2.1, e.2.2.1, mj_hx e.2.2.2))) (hk : ∀ e ∈ hh, own = 13 ∧ e.2.2.2 ≠ 0 ∧ mj_hx e.2.2.2 < 5 ∧ Cond.classLink (mj_cn own) e.2.2.2 (mj_xn (mj_hx e.2.2.2)) ∈ mj_G)
    (hx5 : x < 5) (hce : H[q]? = some ce) (hcv : ce.vm = .none) (hcl : s.vm.findClass (mj_xn x) = some ce.cls) (hI : mj_I E h cl H) (hcap : h.length ≤ cap) (hS : va_S (mj_A E) s.heap H locs) (hc : cells ≤ R.cells) (hs : slots ≤ R.slots)
    (k : match mj_find hd pc x with
      | some t => W p l e R s m args below meth c H locs cells slots (vx_MQ below (mj_Qc E Q cap) (mj_Xc E Q cap) args s R.cells R.slots (mj_A E)) (F0 m t ls [.ref q])
      | none => Q (.inr x) h cl) :
    vx_W p l e R s m args below meth c H locs cells slots (vx_MQ below (mj_Qc E Q cap) (mj_Xc E Q cap) args s R.cells R.slots (mj_A E)) (F0 m pc ls rest) q := by
  have go : ∀ (pre suf : List (Nat × Nat × Nat × Nat)), hh = pre ++ suf → (∀ z ∈ tableOf pre, covers z pc = false ∨ (z.catchType ≠ 0 ∧ ∃ nm : String, (Cond.classLink (mj_cn own) z.catchType nm).before args s = true ∧ va_Nc (mj_xn x) nm s)) → mj_find hd pc x = mj_find (suf.map (fun e => (e.1, e.2.1, e.2.2.1, mj_hx e.2.2.2))) pc x →
      vx_W p l e R s m args below meth c H locs cells slots (vx_MQ below (mj_Qc E Q cap) (mj_Xc E Q cap) args s R.cells R.slots (mj_A E)) (F0 m pc ls rest) q := by
    intro pre suf
    induction suf generalizing pre with
    | nil =>
      intro e1 e2 e3
      rw [e3] at k
      rw [List.append_nil] at e1
      have htab' := htab
      rw [e1] at htab'
      refine vx_outP hown hlocks (fun z hz => e2 z (by rw [← htab']; exact hz)) hce hcv hcl (fun t ht _ => ⟨⟨x, h, cl, k, rfl, hx5, by rw [ht]; exact hI, hcap⟩, hS.F ht⟩) hS.2.2 hc hs
    | cons q0 suf ih =>
      intro e1 e2 e3
      obtain ⟨a, b, t, y⟩ := q0
      have hk0 := hk (a, b, t, y) (by rw [e1]; exact List.mem_append_right _ List.mem_cons_self)
      by_cases g : a ≤ pc ∧ pc < b ∧ x = mj_hx y
      · have e4 : mj_find hd pc x = some t := by
          rw [e3, List.map_cons]
          unfold mj_find
          exact if_pos g
        rw [e4] at k
        have hcast : (Cond.castable (mj_xn x) (mj_xn x)).before args s = true := va_Nw.use rfl (hK.2.2.1 _ (mj_cast_in x hx5))
        refine vx_catch (x := ⟨a, b, t, y⟩) (pre := tableOf pre) (suf := tableOf suf) (name := mj_xn x) hown ?_ e2 ?_ hk0.2.1 ?_ hcast hce hcv hcl k
        · rw [htab, e1]; unfold tableOf; rw [List.map_append]; rfl
        · simp [covers, g.1, g.2.1]
        · have := hts _ hk0.2.2.2
          rw [← g.2.2] at this
          exact this
      · refine ih (pre ++ [(a, b, t, y)]) (by rw [e1, List.append_assoc]; rfl) (fun z hz => ?_) ?_
        · unfold tableOf at hz
          rw [List.map_append] at hz
          rcases List.mem_append.mp hz with hz | hz
          · exact e2 z hz
          · have hz' : z = ⟨a, b, t, y⟩ := by simpa using hz
            subst hz'
            by_cases g1 : a ≤ pc ∧ pc < b
            · have g2 : x ≠ mj_hx y := fun e => g ⟨g1.1, g1.2, e⟩
              exact Or.inr ⟨hk0.2.1, _, hts _ hk0.2.2.2, hK.2.2.2.1 x _ hx5 hk0.2.2.1 g2⟩
            · left
              simp only [covers]
              by_cases g2 : a ≤ pc
              · have g3 : ¬ pc < b := fun g4 => g1 ⟨g2, g4⟩
                simp [g3]
              · simp [g2]
        · rw [e3, List.map_cons]
          conv => lhs; unfold mj_find
          exact if_neg g
  exact go [] hh rfl (fun z hz => by cases hz) (by rw [hdx])
theorem mj_if {c : Prop} [Decidable c] {r : Instr × Nat} {L : List (Instr × Nat)} (h : r ∈ (if c then L else [])) : c ∧ r ∈ L := by
  by_cases q : c
  · rw [if_pos q] at h; exact ⟨q, h⟩
  · rw [if_neg q] at h; cases h
def mj_Ctx (p : Program) (l : Launch) (R : Room) (s : State) (m : MethodId) (args : Array Value) (meth : Method) (c : Code) (E : mj_E) (sc : Nat × (Nat → Int32)) (sx sv : Nat → Nat) (n cap d j own : Nat) (cc : ByteArray) (ret : Option FieldType) (ini : Bool) (Rr : mj_R) (Q : mj_Q) : Prop :=
  p.tables.exec = Jvm.exec ∧ c.code = cc ∧ c.maxLocals = n ∧ s.vm.findClass (mj_cn own) = some m.cls ∧ (∀ w ∈ mj_G, w.before args s = true) ∧ mj_K E sc sx sv s s.heap ∧ meth.locks = false ∧ meth.sig.returnType = ret ∧ (ini = true → meth.name = "<init>") ∧
  (c.exceptionTable.toList = tableOf (mj_hh j) ∧ mj_hd j = (mj_hh j).map (fun e => (e.1, e.2.1, e.2.2.1, mj_hx e.2.2.2)) ∧ (∀ e ∈ mj_hh j, own = 13 ∧ e.2.2.2 ≠ 0 ∧ mj_hx e.2.2.2 < 5 ∧ Cond.classLink (mj_cn own) e.2.2.2 (mj_xn (mj_hx e.2.2.2)) ∈ mj_G) ∧ ((mj_hh j) ≠ [] → own = 13)) ∧
  l.stackTraces = false ∧ d + 9 ≤ R.frames ∧ 64 * (d + 1) + 400 ≤ R.locals ∧ n ≤ 45 ∧ cap < mj_SC ∧
  (∀ j as h cl dc ds o h' cl', (∃ e, mj_m j = some e ∧ mj_facts j e.1 e.2.1 e.2.2.1 e.2.2.2.2.1) → Rr j as h cl dc ds o h' cl' → mj_Con l E sc sx sv d j as h cl dc ds o h' cl') ∧
  (∀ x h cl, Q (.inl (some (.int x))) h cl → ret = some .boolean → narrow .boolean (.int x) = .int x)
abbrev mj_JZ (p : Program) (l : Launch) (e : Env) (R : Room) (s : State) (m : MethodId) (args : Array Value) (below : List Frame) (meth : Method) (c : Code) (E : mj_E) (n cap : Nat) (Q : mj_Q) : mj_J := mj_JW p l e R s m args below meth c E n cap (vx_MQ below (mj_Qc E Q cap) (mj_Xc E Q cap) args s R.cells R.slots (mj_A E))
variable {d j own pc w ft rc rs : Nat} {cc : ByteArray} {ret : Option FieldType} {ini : Bool} {Rr : mj_R} {Q : mj_Q} {is : mj_B} {ls st : List Value} {h : mj_H} {cl : Bool}
set_option maxHeartbeats 400000 in
set_option maxRecDepth 100000 in
theorem mj_s_iload (k : Nat) (C : mj_Ctx p l R s m args meth c E sc sx sv n cap d j own cc ret ini Rr Q) (hw : mj_len own cc ret ini pc (.iload k) = some w) (kd0 : mj_kd (.iload k) = true)
    (ih : ∀ ls st h cl rc rs, mj_b sc mj_tx mj_na Rr (mj_hd j) (mj_JZ p l e R s m args below meth c E n cap Q) Q is ft ls st h cl rc rs → mj_JZ p l e R s m args below meth c E n cap Q (pc + w) ls st h cl rc rs)
    (H : mj_b sc mj_tx mj_na Rr (mj_hd j) (mj_JZ p l e R s m args below meth c E n cap Q) Q ((pc, .iload k) :: is) ft ls st h cl rc rs) : mj_JZ p l e R s m args below meth c E n cap Q pc ls st h cl rc rs := by
  obtain ⟨hx, hb, hml, hown, hts, hK, hlocks, hret, hini, ⟨htab, hdx, hk, hthr⟩, hst, hRf, hRl, hn45, hcap, hR, hzb⟩ := C
  have had : ∀ k c, h[k]? = some c → h.length + rc ≤ cap → E.2.1 k = E.1 + k := fun k c hk hc => hK.2.2.2.2.2.2.2.2.2 k (by have := (List.getElem?_eq_some_iff.mp hk).1; omega)
  have hKK := hK.1.1
  intro H0 locs cells slots ls' st' hat
  obtain ⟨hI, hS, hc, hs, hcp, hL, hSt⟩ := hat
  obtain ⟨x, h1, h2⟩ := H
  obtain ⟨r, hr, hdc, rfl⟩ := mj_len_dc (fun _ h => by cases h) hw
  rcases List.mem_cons.mp hr with rfl | hr
  · exact lv_iload hx hb hdc (mj_L_int hL h1) (ih _ _ _ _ _ _ h2 _ _ _ _ _ _ ⟨hI, hS, hc, hs, hcp, hL, mj_St_1 (mj_V_of rfl) hSt⟩)
  · obtain ⟨g, hr⟩ := mj_if hr
    · cases List.mem_singleton.mp hr
      exact lv_iload_n hx hb hdc (Nat.mod_eq_of_lt g) (mj_L_int hL h1) (ih _ _ _ _ _ _ h2 _ _ _ _ _ _ ⟨hI, hS, hc, hs, hcp, hL, mj_St_1 (mj_V_of rfl) hSt⟩)
set_option maxHeartbeats 400000 in
set_option maxRecDepth 100000 in
theorem mj_s_lload (k : Nat) (C : mj_Ctx p l R s m args meth c E sc sx sv n cap d j own cc ret ini Rr Q) (hw : mj_len own cc ret ini pc (.lload k) = some w) (kd0 : mj_kd (.lload k) = true)
    (ih : ∀ ls st h cl rc rs, mj_b sc mj_tx mj_na Rr (mj_hd j) (mj_JZ p l e R s m args below meth c E n cap Q) Q is ft ls st h cl rc rs → mj_JZ p l e R s m args below meth c E n cap Q (pc + w) ls st h cl rc rs)
    (H : mj_b sc mj_tx mj_na Rr (mj_hd j) (mj_JZ p l e R s m args below meth c E n cap Q) Q ((pc, .lload k) :: is) ft ls st h cl rc rs) : mj_JZ p l e R s m args below meth c E n cap Q pc ls st h cl rc rs := by
  obtain ⟨hx, hb, hml, hown, hts, hK, hlocks, hret, hini, ⟨htab, hdx, hk, hthr⟩, hst, hRf, hRl, hn45, hcap, hR, hzb⟩ := C
  have had : ∀ k c, h[k]? = some c → h.length + rc ≤ cap → E.2.1 k = E.1 + k := fun k c hk hc => hK.2.2.2.2.2.2.2.2.2 k (by have := (List.getElem?_eq_some_iff.mp hk).1; omega)
  have hKK := hK.1.1
  intro H0 locs cells slots ls' st' hat
  obtain ⟨hI, hS, hc, hs, hcp, hL, hSt⟩ := hat
  obtain ⟨x, h1, h2⟩ := H
  obtain ⟨r, hr, hdc, rfl⟩ := mj_len_dc (fun _ h => by cases h) hw
  rcases List.mem_cons.mp hr with rfl | hr
  · exact lv_lload hx hb hdc (mj_L_long hL h1) (ih _ _ _ _ _ _ h2 _ _ _ _ _ _ ⟨hI, hS, hc, hs, hcp, hL, mj_St_1 (mj_V_of rfl) hSt⟩)
  · obtain ⟨g, hr⟩ := mj_if hr
    · cases List.mem_singleton.mp hr
      exact lv_lload_n hx hb hdc (Nat.mod_eq_of_lt g) (mj_L_long hL h1) (ih _ _ _ _ _ _ h2 _ _ _ _ _ _ ⟨hI, hS, hc, hs, hcp, hL, mj_St_1 (mj_V_of rfl) hSt⟩)
set_option maxHeartbeats 400000 in
set_option maxRecDepth 100000 in
theorem mj_s_aload (k : Nat) (C : mj_Ctx p l R s m args meth c E sc sx sv n cap d j own cc ret ini Rr Q) (hw : mj_len own cc ret ini pc (.aload k) = some w) (kd0 : mj_kd (.aload k) = true)
    (ih : ∀ ls st h cl rc rs, mj_b sc mj_tx mj_na Rr (mj_hd j) (mj_JZ p l e R s m args below meth c E n cap Q) Q is ft ls st h cl rc rs → mj_JZ p l e R s m args below meth c E n cap Q (pc + w) ls st h cl rc rs)
    (H : mj_b sc mj_tx mj_na Rr (mj_hd j) (mj_JZ p l e R s m args below meth c E n cap Q) Q ((pc, .aload k) :: is) ft ls st h cl rc rs) : mj_JZ p l e R s m args below meth c E n cap Q pc ls st h cl rc rs := by
  obtain ⟨hx, hb, hml, hown, hts, hK, hlocks, hret, hini, ⟨htab, hdx, hk, hthr⟩, hst, hRf, hRl, hn45, hcap, hR, hzb⟩ := C
  have had : ∀ k c, h[k]? = some c → h.length + rc ≤ cap → E.2.1 k = E.1 + k := fun k c hk hc => hK.2.2.2.2.2.2.2.2.2 k (by have := (List.getElem?_eq_some_iff.mp hk).1; omega)
  have hKK := hK.1.1
  intro H0 locs cells slots ls' st' hat
  obtain ⟨hI, hS, hc, hs, hcp, hL, hSt⟩ := hat
  obtain ⟨x, h1, h2⟩ := H
  obtain ⟨r, hr, hdc, rfl⟩ := mj_len_dc (fun _ h => by cases h) hw
  rcases List.mem_cons.mp hr with rfl | hr
  · exact lv_aload hx hb hdc (mj_L_ref hL h1) (ih _ _ _ _ _ _ h2 _ _ _ _ _ _ ⟨hI, hS, hc, hs, hcp, hL, mj_St_1 (mj_V_of rfl) hSt⟩)
  · obtain ⟨g, hr⟩ := mj_if hr
    · cases List.mem_singleton.mp hr
      exact lv_aload_n hx hb hdc (Nat.mod_eq_of_lt g) (mj_L_ref hL h1) (ih _ _ _ _ _ _ h2 _ _ _ _ _ _ ⟨hI, hS, hc, hs, hcp, hL, mj_St_1 (mj_V_of rfl) hSt⟩)
set_option maxHeartbeats 400000 in
set_option maxRecDepth 100000 in
theorem mj_s_istore (k : Nat) (C : mj_Ctx p l R s m args meth c E sc sx sv n cap d j own cc ret ini Rr Q) (hw : mj_len own cc ret ini pc (.istore k) = some w) (kd0 : mj_kd (.istore k) = true)
    (ih : ∀ ls st h cl rc rs, mj_b sc mj_tx mj_na Rr (mj_hd j) (mj_JZ p l e R s m args below meth c E n cap Q) Q is ft ls st h cl rc rs → mj_JZ p l e R s m args below meth c E n cap Q (pc + w) ls st h cl rc rs)
    (H : mj_b sc mj_tx mj_na Rr (mj_hd j) (mj_JZ p l e R s m args below meth c E n cap Q) Q ((pc, .istore k) :: is) ft ls st h cl rc rs) : mj_JZ p l e R s m args below meth c E n cap Q pc ls st h cl rc rs := by
  obtain ⟨hx, hb, hml, hown, hts, hK, hlocks, hret, hini, ⟨htab, hdx, hk, hthr⟩, hst, hRf, hRl, hn45, hcap, hR, hzb⟩ := C
  have had : ∀ k c, h[k]? = some c → h.length + rc ≤ cap → E.2.1 k = E.1 + k := fun k c hk hc => hK.2.2.2.2.2.2.2.2.2 k (by have := (List.getElem?_eq_some_iff.mp hk).1; omega)
  have hKK := hK.1.1
  intro H0 locs cells slots ls' st' hat
  obtain ⟨hI, hS, hc, hs, hcp, hL, hSt⟩ := hat
  obtain ⟨x, t, rfl, h1, h2, h3⟩ := H
  obtain ⟨t', e0, hSt9⟩ := mj_St_i hSt
  clear hSt
  subst e0
  have hSt := hSt9
  clear hSt9
  rw [hL.2.2.1] at h1
  obtain ⟨r, hr, hdc, rfl⟩ := mj_len_dc (fun _ h => by cases h) hw
  rcases List.mem_cons.mp hr with rfl | hr
  · exact lv_istore hx hb hdc (mj_al_has hL.1 hL.2.1) h1 rfl (fun l2 hl2 => ih _ _ _ _ _ _ h3 _ _ _ _ _ _ ⟨hI, hS, hc, hs, hcp, mj_L_set1 hL h1 h2 (mj_V_of rfl) hl2, hSt⟩)
  · obtain ⟨g, hr⟩ := mj_if hr
    · cases List.mem_singleton.mp hr
      exact lv_istore_n hx hb hdc (Nat.mod_eq_of_lt g) (mj_al_has hL.1 hL.2.1) h1 rfl (fun l2 hl2 => ih _ _ _ _ _ _ h3 _ _ _ _ _ _ ⟨hI, hS, hc, hs, hcp, mj_L_set1 hL h1 h2 (mj_V_of rfl) hl2, hSt⟩)
set_option maxHeartbeats 400000 in
set_option maxRecDepth 100000 in
theorem mj_s_astore (k : Nat) (C : mj_Ctx p l R s m args meth c E sc sx sv n cap d j own cc ret ini Rr Q) (hw : mj_len own cc ret ini pc (.astore k) = some w) (kd0 : mj_kd (.astore k) = true)
    (ih : ∀ ls st h cl rc rs, mj_b sc mj_tx mj_na Rr (mj_hd j) (mj_JZ p l e R s m args below meth c E n cap Q) Q is ft ls st h cl rc rs → mj_JZ p l e R s m args below meth c E n cap Q (pc + w) ls st h cl rc rs)
    (H : mj_b sc mj_tx mj_na Rr (mj_hd j) (mj_JZ p l e R s m args below meth c E n cap Q) Q ((pc, .astore k) :: is) ft ls st h cl rc rs) : mj_JZ p l e R s m args below meth c E n cap Q pc ls st h cl rc rs := by
  obtain ⟨hx, hb, hml, hown, hts, hK, hlocks, hret, hini, ⟨htab, hdx, hk, hthr⟩, hst, hRf, hRl, hn45, hcap, hR, hzb⟩ := C
  have had : ∀ k c, h[k]? = some c → h.length + rc ≤ cap → E.2.1 k = E.1 + k := fun k c hk hc => hK.2.2.2.2.2.2.2.2.2 k (by have := (List.getElem?_eq_some_iff.mp hk).1; omega)
  have hKK := hK.1.1
  intro H0 locs cells slots ls' st' hat
  obtain ⟨hI, hS, hc, hs, hcp, hL, hSt⟩ := hat
  obtain ⟨x, t, rfl, hv, h1, h2, h3⟩ := H
  obtain ⟨y, t', e0, hV, hSt9⟩ := mj_St_cons hSt
  clear hSt
  subst e0
  have hSt := hSt9
  clear hSt9
  obtain ⟨z, rfl⟩ : ∃ z, y = .ref z := by
    rcases hv with rfl | ⟨a, rfl⟩
    · rcases hV with ⟨-, q, rfl⟩ | ⟨hp, -⟩
      · exact ⟨q, rfl⟩
      · cases hp
    · exact ⟨_, mj_V_ref hV⟩
  rw [hL.2.2.1] at h1
  obtain ⟨r, hr, hdc, rfl⟩ := mj_len_dc (fun _ h => by cases h) hw
  rcases List.mem_cons.mp hr with rfl | hr
  · exact lv_astore hx hb hdc (mj_al_has hL.1 hL.2.1) h1 rfl (fun l2 hl2 => ih _ _ _ _ _ _ h3 _ _ _ _ _ _ ⟨hI, hS, hc, hs, hcp, mj_L_set1 hL h1 h2 hV hl2, hSt⟩)
  · obtain ⟨g, hr⟩ := mj_if hr
    · cases List.mem_singleton.mp hr
      exact lv_astore_n hx hb hdc (Nat.mod_eq_of_lt g) (mj_al_has hL.1 hL.2.1) h1 rfl (fun l2 hl2 => ih _ _ _ _ _ _ h3 _ _ _ _ _ _ ⟨hI, hS, hc, hs, hcp, mj_L_set1 hL h1 h2 hV hl2, hSt⟩)
set_option maxHeartbeats 400000 in
set_option maxRecDepth 100000 in
theorem mj_s_lstore (k : Nat) (C : mj_Ctx p l R s m args meth c E sc sx sv n cap d j own cc ret ini Rr Q) (hw : mj_len own cc ret ini pc (.lstore k) = some w) (kd0 : mj_kd (.lstore k) = true)
    (ih : ∀ ls st h cl rc rs, mj_b sc mj_tx mj_na Rr (mj_hd j) (mj_JZ p l e R s m args below meth c E n cap Q) Q is ft ls st h cl rc rs → mj_JZ p l e R s m args below meth c E n cap Q (pc + w) ls st h cl rc rs)
    (H : mj_b sc mj_tx mj_na Rr (mj_hd j) (mj_JZ p l e R s m args below meth c E n cap Q) Q ((pc, .lstore k) :: is) ft ls st h cl rc rs) : mj_JZ p l e R s m args below meth c E n cap Q pc ls st h cl rc rs := by
  obtain ⟨hx, hb, hml, hown, hts, hK, hlocks, hret, hini, ⟨htab, hdx, hk, hthr⟩, hst, hRf, hRl, hn45, hcap, hR, hzb⟩ := C
  have had : ∀ k c, h[k]? = some c → h.length + rc ≤ cap → E.2.1 k = E.1 + k := fun k c hk hc => hK.2.2.2.2.2.2.2.2.2 k (by have := (List.getElem?_eq_some_iff.mp hk).1; omega)
  have hKK := hK.1.1
  intro H0 locs cells slots ls' st' hat
  obtain ⟨hI, hS, hc, hs, hcp, hL, hSt⟩ := hat
  obtain ⟨x, t, rfl, h1, h2, h3⟩ := H
  obtain ⟨t', e0, hSt9⟩ := mj_St_l hSt
  clear hSt
  subst e0
  have hSt := hSt9
  clear hSt9
  rw [hL.2.2.1] at h1
  obtain ⟨r, hr, hdc, rfl⟩ := mj_len_dc (fun _ h => by cases h) hw
  rcases List.mem_cons.mp hr with rfl | hr
  · exact lv_lstore hx hb hdc (mj_al_has hL.1 hL.2.1) h1 rfl (fun l2 hl2 => ih _ _ _ _ _ _ h3 _ _ _ _ _ _ ⟨hI, hS, hc, hs, hcp, mj_L_set2 hL h1 h2 (mj_V_of rfl) hl2, hSt⟩)
  · obtain ⟨g, hr⟩ := mj_if hr
    · cases List.mem_singleton.mp hr
      exact lv_lstore_n hx hb hdc (Nat.mod_eq_of_lt g) (mj_al_has hL.1 hL.2.1) h1 rfl (fun l2 hl2 => ih _ _ _ _ _ _ h3 _ _ _ _ _ _ ⟨hI, hS, hc, hs, hcp, mj_L_set2 hL h1 h2 (mj_V_of rfl) hl2, hSt⟩)
set_option maxHeartbeats 400000 in
set_option maxRecDepth 100000 in
theorem mj_s_iconst (k : Int) (C : mj_Ctx p l R s m args meth c E sc sx sv n cap d j own cc ret ini Rr Q) (hw : mj_len own cc ret ini pc (.iconst k) = some w) (kd0 : mj_kd (.iconst k) = true)
    (ih : ∀ ls st h cl rc rs, mj_b sc mj_tx mj_na Rr (mj_hd j) (mj_JZ p l e R s m args below meth c E n cap Q) Q is ft ls st h cl rc rs → mj_JZ p l e R s m args below meth c E n cap Q (pc + w) ls st h cl rc rs)
    (H : mj_b sc mj_tx mj_na Rr (mj_hd j) (mj_JZ p l e R s m args below meth c E n cap Q) Q ((pc, .iconst k) :: is) ft ls st h cl rc rs) : mj_JZ p l e R s m args below meth c E n cap Q pc ls st h cl rc rs := by
  obtain ⟨hx, hb, hml, hown, hts, hK, hlocks, hret, hini, ⟨htab, hdx, hk, hthr⟩, hst, hRf, hRl, hn45, hcap, hR, hzb⟩ := C
  have had : ∀ k c, h[k]? = some c → h.length + rc ≤ cap → E.2.1 k = E.1 + k := fun k c hk hc => hK.2.2.2.2.2.2.2.2.2 k (by have := (List.getElem?_eq_some_iff.mp hk).1; omega)
  have hKK := hK.1.1
  intro H0 locs cells slots ls' st' hat
  obtain ⟨hI, hS, hc, hs, hcp, hL, hSt⟩ := hat
  obtain ⟨r, hr, hdc, rfl⟩ := mj_len_dc (fun _ h => by cases h) hw
  have K := ih _ _ _ _ _ _ H
  rcases List.mem_cons.mp hr with rfl | hr
  · exact lv_iconst hx hb hdc rfl (K _ _ _ _ _ _ ⟨hI, hS, hc, hs, hcp, hL, mj_St_1 (mj_V_of rfl) hSt⟩)
  rcases List.mem_append.mp hr with hr | hr
  · obtain ⟨g, hr⟩ := mj_if hr
    · cases List.mem_singleton.mp hr
      exact lv_bipush hx hb hdc g (K _ _ _ _ _ _ ⟨hI, hS, hc, hs, hcp, hL, mj_St_1 (mj_V_of rfl) hSt⟩)
  rcases List.mem_append.mp hr with hr | hr
  · obtain ⟨g, hr⟩ := mj_if hr
    · cases List.mem_singleton.mp hr
      exact lv_sipush hx hb hdc g (K _ _ _ _ _ _ ⟨hI, hS, hc, hs, hcp, hL, mj_St_1 (mj_V_of rfl) hSt⟩)
  rcases List.mem_append.mp hr with hr | hr
  · obtain ⟨ix, g, rfl⟩ := List.mem_map.mp hr
    exact lv_ldc hx hb hown (hts _ (mj_G_of (mj_lkC_ok _ (mj_ixI_mem g)) rfl)) hdc (K _ _ _ _ _ _ ⟨hI, hS, hc, hs, hcp, hL, mj_St_1 (mj_V_of rfl) hSt⟩)
  · obtain ⟨ix, g, rfl⟩ := List.mem_map.mp hr
    exact lv_ldcw hx hb hown (hts _ (mj_G_of (mj_lkC_ok _ (mj_ixI_mem g)) rfl)) hdc (K _ _ _ _ _ _ ⟨hI, hS, hc, hs, hcp, hL, mj_St_1 (mj_V_of rfl) hSt⟩)
set_option maxHeartbeats 400000 in
set_option maxRecDepth 100000 in
theorem mj_s_ldc2_w (k : Nat) (C : mj_Ctx p l R s m args meth c E sc sx sv n cap d j own cc ret ini Rr Q) (hw : mj_len own cc ret ini pc (.ldc2_w k) = some w) (kd0 : mj_kd (.ldc2_w k) = true)
    (ih : ∀ ls st h cl rc rs, mj_b sc mj_tx mj_na Rr (mj_hd j) (mj_JZ p l e R s m args below meth c E n cap Q) Q is ft ls st h cl rc rs → mj_JZ p l e R s m args below meth c E n cap Q (pc + w) ls st h cl rc rs)
    (H : mj_b sc mj_tx mj_na Rr (mj_hd j) (mj_JZ p l e R s m args below meth c E n cap Q) Q ((pc, .ldc2_w k) :: is) ft ls st h cl rc rs) : mj_JZ p l e R s m args below meth c E n cap Q pc ls st h cl rc rs := by
  obtain ⟨hx, hb, hml, hown, hts, hK, hlocks, hret, hini, ⟨htab, hdx, hk, hthr⟩, hst, hRf, hRl, hn45, hcap, hR, hzb⟩ := C
  have had : ∀ k c, h[k]? = some c → h.length + rc ≤ cap → E.2.1 k = E.1 + k := fun k c hk hc => hK.2.2.2.2.2.2.2.2.2 k (by have := (List.getElem?_eq_some_iff.mp hk).1; omega)
  have hKK := hK.1.1
  intro H0 locs cells slots ls' st' hat
  obtain ⟨hI, hS, hc, hs, hcp, hL, hSt⟩ := hat
  obtain ⟨r, hr, hdc, rfl⟩ := mj_len_dc (fun _ h => by cases h) hw
  have K := ih _ _ _ _ _ _ H
  rcases List.mem_append.mp hr with hr | hr
  · obtain ⟨g, hr⟩ := mj_if hr
    · cases List.mem_singleton.mp hr
      exact lv_lconst hx hb hdc (by rw [show ((Fin.ofNat 2 k : Fin 2) : Nat) = k from Nat.mod_eq_of_lt g]) (K _ _ _ _ _ _ ⟨hI, hS, hc, hs, hcp, hL, mj_St_1 (mj_V_of rfl) hSt⟩)
  · obtain ⟨ix, g, rfl⟩ := List.mem_map.mp hr
    exact lv_ldc2 hx hb hown (hts _ (mj_G_of (mj_lkL_ok _ (mj_ix_mem g)) rfl)) hdc (K _ _ _ _ _ _ ⟨hI, hS, hc, hs, hcp, hL, mj_St_1 (mj_V_of rfl) hSt⟩)
set_option maxHeartbeats 400000 in
set_option maxRecDepth 100000 in
theorem mj_s_ldc (k : Nat) (C : mj_Ctx p l R s m args meth c E sc sx sv n cap d j own cc ret ini Rr Q) (hw : mj_len own cc ret ini pc (.ldc k) = some w) (kd0 : mj_kd (.ldc k) = true)
    (ih : ∀ ls st h cl rc rs, mj_b sc mj_tx mj_na Rr (mj_hd j) (mj_JZ p l e R s m args below meth c E n cap Q) Q is ft ls st h cl rc rs → mj_JZ p l e R s m args below meth c E n cap Q (pc + w) ls st h cl rc rs)
    (H : mj_b sc mj_tx mj_na Rr (mj_hd j) (mj_JZ p l e R s m args below meth c E n cap Q) Q ((pc, .ldc k) :: is) ft ls st h cl rc rs) : mj_JZ p l e R s m args below meth c E n cap Q pc ls st h cl rc rs := by
  obtain ⟨hx, hb, hml, hown, hts, hK, hlocks, hret, hini, ⟨htab, hdx, hk, hthr⟩, hst, hRf, hRl, hn45, hcap, hR, hzb⟩ := C
  have had : ∀ k c, h[k]? = some c → h.length + rc ≤ cap → E.2.1 k = E.1 + k := fun k c hk hc => hK.2.2.2.2.2.2.2.2.2 k (by have := (List.getElem?_eq_some_iff.mp hk).1; omega)
  have hKK := hK.1.1
  intro H0 locs cells slots ls' st' hat
  obtain ⟨hI, hS, hc, hs, hcp, hL, hSt⟩ := hat
  obtain ⟨r, hr, hdc, rfl⟩ := mj_len_dc (fun _ h => by cases h) hw
  have K := ih _ _ _ _ _ _ H
  rcases List.mem_append.mp hr with hr | hr
  · obtain ⟨ix, g, rfl⟩ := List.mem_map.mp hr
    have hz : vk_R (mj_cn own) ix (mj_tS.getD k "") (E.2.1 (mj_SC + 1 + k)) s := hK.2.2.2.2.1 (own, ix, k) (mj_ix_mem g)
    exact mj_ldcs hx hb hown hz hdc (K _ _ _ _ _ _ ⟨hI, hS, hc, hs, hcp, hL, mj_St_1 (mj_V_of (v := .ref (mj_SC + 1 + k)) rfl) hSt⟩)
  · obtain ⟨ix, g, rfl⟩ := List.mem_map.mp hr
    have hz : vk_R (mj_cn own) ix (mj_tS.getD k "") (E.2.1 (mj_SC + 1 + k)) s := hK.2.2.2.2.1 (own, ix, k) (mj_ix_mem g)
    exact mj_ldcsw hx hb hown hz hdc (K _ _ _ _ _ _ ⟨hI, hS, hc, hs, hcp, hL, mj_St_1 (mj_V_of (v := .ref (mj_SC + 1 + k)) rfl) hSt⟩)
set_option maxHeartbeats 400000 in
set_option maxRecDepth 100000 in
theorem mj_s_iinc (k : Nat) (v : Int) (C : mj_Ctx p l R s m args meth c E sc sx sv n cap d j own cc ret ini Rr Q) (hw : mj_len own cc ret ini pc (.iinc k v) = some w) (kd0 : mj_kd (.iinc k v) = true)
    (ih : ∀ ls st h cl rc rs, mj_b sc mj_tx mj_na Rr (mj_hd j) (mj_JZ p l e R s m args below meth c E n cap Q) Q is ft ls st h cl rc rs → mj_JZ p l e R s m args below meth c E n cap Q (pc + w) ls st h cl rc rs)
    (H : mj_b sc mj_tx mj_na Rr (mj_hd j) (mj_JZ p l e R s m args below meth c E n cap Q) Q ((pc, .iinc k v) :: is) ft ls st h cl rc rs) : mj_JZ p l e R s m args below meth c E n cap Q pc ls st h cl rc rs := by
  obtain ⟨hx, hb, hml, hown, hts, hK, hlocks, hret, hini, ⟨htab, hdx, hk, hthr⟩, hst, hRf, hRl, hn45, hcap, hR, hzb⟩ := C
  have had : ∀ k c, h[k]? = some c → h.length + rc ≤ cap → E.2.1 k = E.1 + k := fun k c hk hc => hK.2.2.2.2.2.2.2.2.2 k (by have := (List.getElem?_eq_some_iff.mp hk).1; omega)
  have hKK := hK.1.1
  intro H0 locs cells slots ls' st' hat
  obtain ⟨hI, hS, hc, hs, hcp, hL, hSt⟩ := hat
  obtain ⟨x, h1, h2, h3⟩ := H
  obtain ⟨r, hr, hdc, rfl⟩ := mj_len_dc (fun _ h => by cases h) hw
  cases List.mem_singleton.mp hr
  have hkn : k < n := by
    have := (List.getElem?_eq_some_iff.mp h1).1
    rw [hL.2.2.1] at this; exact this
  obtain ⟨z, hz⟩ := List.getElem?_of_mem (mj_al_mem (mj_L_int hL h1))
  exact lv_iinc hx hb hdc (mj_al_has hL.1 hL.2.1) hz rfl hkn rfl (fun l2 hl2 => ih _ _ _ _ _ _ h3 _ _ _ _ _ _ ⟨hI, hS, hc, hs, hcp, mj_L_set1 hL hkn h2 (mj_V_of rfl) hl2, hSt⟩)
set_option maxHeartbeats 400000 in
set_option maxRecDepth 100000 in
theorem mj_s_ineg (C : mj_Ctx p l R s m args meth c E sc sx sv n cap d j own cc ret ini Rr Q) (hw : mj_len own cc ret ini pc (.ineg) = some w) (kd0 : mj_kd (.ineg) = true)
    (ih : ∀ ls st h cl rc rs, mj_b sc mj_tx mj_na Rr (mj_hd j) (mj_JZ p l e R s m args below meth c E n cap Q) Q is ft ls st h cl rc rs → mj_JZ p l e R s m args below meth c E n cap Q (pc + w) ls st h cl rc rs)
    (H : mj_b sc mj_tx mj_na Rr (mj_hd j) (mj_JZ p l e R s m args below meth c E n cap Q) Q ((pc, .ineg) :: is) ft ls st h cl rc rs) : mj_JZ p l e R s m args below meth c E n cap Q pc ls st h cl rc rs := by
  obtain ⟨hx, hb, hml, hown, hts, hK, hlocks, hret, hini, ⟨htab, hdx, hk, hthr⟩, hst, hRf, hRl, hn45, hcap, hR, hzb⟩ := C
  have had : ∀ k c, h[k]? = some c → h.length + rc ≤ cap → E.2.1 k = E.1 + k := fun k c hk hc => hK.2.2.2.2.2.2.2.2.2 k (by have := (List.getElem?_eq_some_iff.mp hk).1; omega)
  have hKK := hK.1.1
  intro H0 locs cells slots ls' st' hat
  obtain ⟨hI, hS, hc, hs, hcp, hL, hSt⟩ := hat
  obtain ⟨x, t, rfl, h2⟩ := H
  obtain ⟨t', e0, hSt9⟩ := mj_St_i hSt
  clear hSt
  subst e0
  have hSt := hSt9
  clear hSt9
  obtain ⟨r, hr, hdc, rfl⟩ := mj_len_dc (fun _ h => by cases h) hw
  cases List.mem_singleton.mp hr
  exact lv_ineg hx hb hdc (ih _ _ _ _ _ _ h2 _ _ _ _ _ _ ⟨hI, hS, hc, hs, hcp, hL, mj_St_1 (mj_V_of rfl) hSt⟩)
set_option maxHeartbeats 400000 in
set_option maxRecDepth 100000 in
theorem mj_s_i2l (C : mj_Ctx p l R s m args meth c E sc sx sv n cap d j own cc ret ini Rr Q) (hw : mj_len own cc ret ini pc (.i2l) = some w) (kd0 : mj_kd (.i2l) = true)
    (ih : ∀ ls st h cl rc rs, mj_b sc mj_tx mj_na Rr (mj_hd j) (mj_JZ p l e R s m args below meth c E n cap Q) Q is ft ls st h cl rc rs → mj_JZ p l e R s m args below meth c E n cap Q (pc + w) ls st h cl rc rs)
    (H : mj_b sc mj_tx mj_na Rr (mj_hd j) (mj_JZ p l e R s m args below meth c E n cap Q) Q ((pc, .i2l) :: is) ft ls st h cl rc rs) : mj_JZ p l e R s m args below meth c E n cap Q pc ls st h cl rc rs := by
  obtain ⟨hx, hb, hml, hown, hts, hK, hlocks, hret, hini, ⟨htab, hdx, hk, hthr⟩, hst, hRf, hRl, hn45, hcap, hR, hzb⟩ := C
  have had : ∀ k c, h[k]? = some c → h.length + rc ≤ cap → E.2.1 k = E.1 + k := fun k c hk hc => hK.2.2.2.2.2.2.2.2.2 k (by have := (List.getElem?_eq_some_iff.mp hk).1; omega)
  have hKK := hK.1.1
  intro H0 locs cells slots ls' st' hat
  obtain ⟨hI, hS, hc, hs, hcp, hL, hSt⟩ := hat
  obtain ⟨x, t, rfl, h2⟩ := H
  obtain ⟨t', e0, hSt9⟩ := mj_St_i hSt
  clear hSt
  subst e0
  have hSt := hSt9
  clear hSt9
  obtain ⟨r, hr, hdc, rfl⟩ := mj_len_dc (fun _ h => by cases h) hw
  cases List.mem_singleton.mp hr
  exact lv_i2l hx hb hdc rfl (ih _ _ _ _ _ _ h2 _ _ _ _ _ _ ⟨hI, hS, hc, hs, hcp, hL, mj_St_1 (mj_V_of rfl) hSt⟩)
set_option maxHeartbeats 400000 in
set_option maxRecDepth 100000 in
theorem mj_s_l2i (C : mj_Ctx p l R s m args meth c E sc sx sv n cap d j own cc ret ini Rr Q) (hw : mj_len own cc ret ini pc (.l2i) = some w) (kd0 : mj_kd (.l2i) = true)
    (ih : ∀ ls st h cl rc rs, mj_b sc mj_tx mj_na Rr (mj_hd j) (mj_JZ p l e R s m args below meth c E n cap Q) Q is ft ls st h cl rc rs → mj_JZ p l e R s m args below meth c E n cap Q (pc + w) ls st h cl rc rs)
    (H : mj_b sc mj_tx mj_na Rr (mj_hd j) (mj_JZ p l e R s m args below meth c E n cap Q) Q ((pc, .l2i) :: is) ft ls st h cl rc rs) : mj_JZ p l e R s m args below meth c E n cap Q pc ls st h cl rc rs := by
  obtain ⟨hx, hb, hml, hown, hts, hK, hlocks, hret, hini, ⟨htab, hdx, hk, hthr⟩, hst, hRf, hRl, hn45, hcap, hR, hzb⟩ := C
  have had : ∀ k c, h[k]? = some c → h.length + rc ≤ cap → E.2.1 k = E.1 + k := fun k c hk hc => hK.2.2.2.2.2.2.2.2.2 k (by have := (List.getElem?_eq_some_iff.mp hk).1; omega)
  have hKK := hK.1.1
  intro H0 locs cells slots ls' st' hat
  obtain ⟨hI, hS, hc, hs, hcp, hL, hSt⟩ := hat
  obtain ⟨x, t, rfl, h2⟩ := H
  obtain ⟨t', e0, hSt9⟩ := mj_St_l hSt
  clear hSt
  subst e0
  have hSt := hSt9
  clear hSt9
  obtain ⟨r, hr, hdc, rfl⟩ := mj_len_dc (fun _ h => by cases h) hw
  cases List.mem_singleton.mp hr
  exact lv_l2i hx hb hdc rfl (ih _ _ _ _ _ _ h2 _ _ _ _ _ _ ⟨hI, hS, hc, hs, hcp, hL, mj_St_1 (mj_V_of rfl) hSt⟩)
set_option maxHeartbeats 400000 in
set_option maxRecDepth 100000 in
theorem mj_s_lcmp (C : mj_Ctx p l R s m args meth c E sc sx sv n cap d j own cc ret ini Rr Q) (hw : mj_len own cc ret ini pc (.lcmp) = some w) (kd0 : mj_kd (.lcmp) = true)
    (ih : ∀ ls st h cl rc rs, mj_b sc mj_tx mj_na Rr (mj_hd j) (mj_JZ p l e R s m args below meth c E n cap Q) Q is ft ls st h cl rc rs → mj_JZ p l e R s m args below meth c E n cap Q (pc + w) ls st h cl rc rs)
    (H : mj_b sc mj_tx mj_na Rr (mj_hd j) (mj_JZ p l e R s m args below meth c E n cap Q) Q ((pc, .lcmp) :: is) ft ls st h cl rc rs) : mj_JZ p l e R s m args below meth c E n cap Q pc ls st h cl rc rs := by
  obtain ⟨hx, hb, hml, hown, hts, hK, hlocks, hret, hini, ⟨htab, hdx, hk, hthr⟩, hst, hRf, hRl, hn45, hcap, hR, hzb⟩ := C
  have had : ∀ k c, h[k]? = some c → h.length + rc ≤ cap → E.2.1 k = E.1 + k := fun k c hk hc => hK.2.2.2.2.2.2.2.2.2 k (by have := (List.getElem?_eq_some_iff.mp hk).1; omega)
  have hKK := hK.1.1
  intro H0 locs cells slots ls' st' hat
  obtain ⟨hI, hS, hc, hs, hcp, hL, hSt⟩ := hat
  obtain ⟨x, y, t, rfl, h2⟩ := H
  obtain ⟨t', e0, hSt9⟩ := mj_St_l hSt
  clear hSt
  subst e0
  have hSt := hSt9
  clear hSt9
  obtain ⟨t', e0, hSt9⟩ := mj_St_l hSt
  clear hSt
  subst e0
  have hSt := hSt9
  clear hSt9
  obtain ⟨r, hr, hdc, rfl⟩ := mj_len_dc (fun _ h => by cases h) hw
  cases List.mem_singleton.mp hr
  exact W.lcmp hx hb hdc (ih _ _ _ _ _ _ h2 _ _ _ _ _ _ ⟨hI, hS, hc, hs, hcp, hL, mj_St_1 (mj_V_of rfl) hSt⟩)
set_option maxHeartbeats 400000 in
set_option maxRecDepth 100000 in
theorem mj_s_dup (C : mj_Ctx p l R s m args meth c E sc sx sv n cap d j own cc ret ini Rr Q) (hw : mj_len own cc ret ini pc (.dup) = some w) (kd0 : mj_kd (.dup) = true)
    (ih : ∀ ls st h cl rc rs, mj_b sc mj_tx mj_na Rr (mj_hd j) (mj_JZ p l e R s m args below meth c E n cap Q) Q is ft ls st h cl rc rs → mj_JZ p l e R s m args below meth c E n cap Q (pc + w) ls st h cl rc rs)
    (H : mj_b sc mj_tx mj_na Rr (mj_hd j) (mj_JZ p l e R s m args below meth c E n cap Q) Q ((pc, .dup) :: is) ft ls st h cl rc rs) : mj_JZ p l e R s m args below meth c E n cap Q pc ls st h cl rc rs := by
  obtain ⟨hx, hb, hml, hown, hts, hK, hlocks, hret, hini, ⟨htab, hdx, hk, hthr⟩, hst, hRf, hRl, hn45, hcap, hR, hzb⟩ := C
  have had : ∀ k c, h[k]? = some c → h.length + rc ≤ cap → E.2.1 k = E.1 + k := fun k c hk hc => hK.2.2.2.2.2.2.2.2.2 k (by have := (List.getElem?_eq_some_iff.mp hk).1; omega)
  have hKK := hK.1.1
  intro H0 locs cells slots ls' st' hat
  obtain ⟨hI, hS, hc, hs, hcp, hL, hSt⟩ := hat
  obtain ⟨v, t, rfl, hv, h2⟩ := H
  obtain ⟨r, hr, hdc, rfl⟩ := mj_len_dc (fun _ h => by cases h) hw
  cases List.mem_singleton.mp hr
  rcases hv with ⟨x, rfl⟩ | ⟨x, rfl⟩
  · obtain ⟨t', e0, hSt9⟩ := mj_St_i hSt
    clear hSt
    subst e0
    have hSt := hSt9
    clear hSt9
    exact lv_dup hx hb hdc rfl (ih _ _ _ _ _ _ h2 _ _ _ _ _ _ ⟨hI, hS, hc, hs, hcp, hL, mj_St_1 (mj_V_of rfl) (mj_St_1 (mj_V_of rfl) hSt)⟩)
  · obtain ⟨t', e0, hSt9⟩ := mj_St_r hSt
    clear hSt
    subst e0
    have hSt := hSt9
    clear hSt9
    exact lv_dup hx hb hdc rfl (ih _ _ _ _ _ _ h2 _ _ _ _ _ _ ⟨hI, hS, hc, hs, hcp, hL, mj_St_1 (mj_V_of rfl) (mj_St_1 (mj_V_of rfl) hSt)⟩)
set_option maxHeartbeats 400000 in
set_option maxRecDepth 100000 in
theorem mj_s_pop (C : mj_Ctx p l R s m args meth c E sc sx sv n cap d j own cc ret ini Rr Q) (hw : mj_len own cc ret ini pc (.pop) = some w) (kd0 : mj_kd (.pop) = true)
    (ih : ∀ ls st h cl rc rs, mj_b sc mj_tx mj_na Rr (mj_hd j) (mj_JZ p l e R s m args below meth c E n cap Q) Q is ft ls st h cl rc rs → mj_JZ p l e R s m args below meth c E n cap Q (pc + w) ls st h cl rc rs)
    (H : mj_b sc mj_tx mj_na Rr (mj_hd j) (mj_JZ p l e R s m args below meth c E n cap Q) Q ((pc, .pop) :: is) ft ls st h cl rc rs) : mj_JZ p l e R s m args below meth c E n cap Q pc ls st h cl rc rs := by
  obtain ⟨hx, hb, hml, hown, hts, hK, hlocks, hret, hini, ⟨htab, hdx, hk, hthr⟩, hst, hRf, hRl, hn45, hcap, hR, hzb⟩ := C
  have had : ∀ k c, h[k]? = some c → h.length + rc ≤ cap → E.2.1 k = E.1 + k := fun k c hk hc => hK.2.2.2.2.2.2.2.2.2 k (by have := (List.getElem?_eq_some_iff.mp hk).1; omega)
  have hKK := hK.1.1
  intro H0 locs cells slots ls' st' hat
  obtain ⟨hI, hS, hc, hs, hcp, hL, hSt⟩ := hat
  obtain ⟨v, t, rfl, hv, h2⟩ := H
  obtain ⟨r, hr, hdc, rfl⟩ := mj_len_dc (fun _ h => by cases h) hw
  cases List.mem_singleton.mp hr
  rcases hv with ⟨x, rfl⟩ | ⟨x, rfl⟩
  · obtain ⟨t', e0, hSt9⟩ := mj_St_i hSt
    clear hSt
    subst e0
    have hSt := hSt9
    clear hSt9
    exact lv_pop hx hb hdc rfl (ih _ _ _ _ _ _ h2 _ _ _ _ _ _ ⟨hI, hS, hc, hs, hcp, hL, hSt⟩)
  · obtain ⟨t', e0, hSt9⟩ := mj_St_r hSt
    clear hSt
    subst e0
    have hSt := hSt9
    clear hSt9
    exact lv_pop hx hb hdc rfl (ih _ _ _ _ _ _ h2 _ _ _ _ _ _ ⟨hI, hS, hc, hs, hcp, hL, hSt⟩)
set_option maxHeartbeats 400000 in
set_option maxRecDepth 100000 in
theorem mj_s_dup2 (C : mj_Ctx p l R s m args meth c E sc sx sv n cap d j own cc ret ini Rr Q) (hw : mj_len own cc ret ini pc (.dup2) = some w) (kd0 : mj_kd (.dup2) = true)
    (ih : ∀ ls st h cl rc rs, mj_b sc mj_tx mj_na Rr (mj_hd j) (mj_JZ p l e R s m args below meth c E n cap Q) Q is ft ls st h cl rc rs → mj_JZ p l e R s m args below meth c E n cap Q (pc + w) ls st h cl rc rs)
    (H : mj_b sc mj_tx mj_na Rr (mj_hd j) (mj_JZ p l e R s m args below meth c E n cap Q) Q ((pc, .dup2) :: is) ft ls st h cl rc rs) : mj_JZ p l e R s m args below meth c E n cap Q pc ls st h cl rc rs := by
  obtain ⟨hx, hb, hml, hown, hts, hK, hlocks, hret, hini, ⟨htab, hdx, hk, hthr⟩, hst, hRf, hRl, hn45, hcap, hR, hzb⟩ := C
  have had : ∀ k c, h[k]? = some c → h.length + rc ≤ cap → E.2.1 k = E.1 + k := fun k c hk hc => hK.2.2.2.2.2.2.2.2.2 k (by have := (List.getElem?_eq_some_iff.mp hk).1; omega)
  have hKK := hK.1.1
  intro H0 locs cells slots ls' st' hat
  obtain ⟨hI, hS, hc, hs, hcp, hL, hSt⟩ := hat
  obtain ⟨x, a, t, rfl, h2⟩ := H
  obtain ⟨r, hr, hdc, rfl⟩ := mj_len_dc (fun _ h => by cases h) hw
  cases List.mem_singleton.mp hr
  obtain ⟨t', e0, hSt9⟩ := mj_St_i hSt
  clear hSt
  subst e0
  have hSt := hSt9
  clear hSt9
  obtain ⟨t', e0, hSt9⟩ := mj_St_r hSt
  clear hSt
  subst e0
  have hSt := hSt9
  clear hSt9
  exact lv_dup2_11 hx hb hdc rfl rfl (ih _ _ _ _ _ _ h2 _ _ _ _ _ _ ⟨hI, hS, hc, hs, hcp, hL, mj_St_1 (mj_V_of rfl) (mj_St_1 (mj_V_of rfl) (mj_St_1 (mj_V_of rfl) (mj_St_1 (mj_V_of rfl) hSt)))⟩)
set_option maxHeartbeats 400000 in
set_option maxRecDepth 100000 in
theorem mj_s_ladd (C : mj_Ctx p l R s m args meth c E sc sx sv n cap d j own cc ret ini Rr Q) (hw : mj_len own cc ret ini pc (.ladd) = some w) (kd0 : mj_kd (.ladd) = true)
    (ih : ∀ ls st h cl rc rs, mj_b sc mj_tx mj_na Rr (mj_hd j) (mj_JZ p l e R s m args below meth c E n cap Q) Q is ft ls st h cl rc rs → mj_JZ p l e R s m args below meth c E n cap Q (pc + w) ls st h cl rc rs)
    (H : mj_b sc mj_tx mj_na Rr (mj_hd j) (mj_JZ p l e R s m args below meth c E n cap Q) Q ((pc, .ladd) :: is) ft ls st h cl rc rs) : mj_JZ p l e R s m args below meth c E n cap Q pc ls st h cl rc rs := by
  obtain ⟨hx, hb, hml, hown, hts, hK, hlocks, hret, hini, ⟨htab, hdx, hk, hthr⟩, hst, hRf, hRl, hn45, hcap, hR, hzb⟩ := C
  have had : ∀ k c, h[k]? = some c → h.length + rc ≤ cap → E.2.1 k = E.1 + k := fun k c hk hc => hK.2.2.2.2.2.2.2.2.2 k (by have := (List.getElem?_eq_some_iff.mp hk).1; omega)
  have hKK := hK.1.1
  intro H0 locs cells slots ls' st' hat
  obtain ⟨hI, hS, hc, hs, hcp, hL, hSt⟩ := hat
  obtain ⟨x, y, z, t, rfl, h1, h2⟩ := H
  obtain ⟨t', e0, hSt9⟩ := mj_St_l hSt
  clear hSt
  subst e0
  have hSt := hSt9
  clear hSt9
  obtain ⟨t', e0, hSt9⟩ := mj_St_l hSt
  clear hSt
  subst e0
  have hSt := hSt9
  clear hSt9
  obtain ⟨r, hr, hdc, rfl⟩ := mj_len_dc (fun _ h => by cases h) hw
  cases List.mem_singleton.mp hr
  cases h1
  exact lv_ladd hx hb hdc (ih _ _ _ _ _ _ h2 _ _ _ _ _ _ ⟨hI, hS, hc, hs, hcp, hL, mj_St_1 (mj_V_of rfl) hSt⟩)
set_option maxHeartbeats 400000 in
set_option maxRecDepth 100000 in
theorem mj_s_lmul (C : mj_Ctx p l R s m args meth c E sc sx sv n cap d j own cc ret ini Rr Q) (hw : mj_len own cc ret ini pc (.lmul) = some w) (kd0 : mj_kd (.lmul) = true)
    (ih : ∀ ls st h cl rc rs, mj_b sc mj_tx mj_na Rr (mj_hd j) (mj_JZ p l e R s m args below meth c E n cap Q) Q is ft ls st h cl rc rs → mj_JZ p l e R s m args below meth c E n cap Q (pc + w) ls st h cl rc rs)
    (H : mj_b sc mj_tx mj_na Rr (mj_hd j) (mj_JZ p l e R s m args below meth c E n cap Q) Q ((pc, .lmul) :: is) ft ls st h cl rc rs) : mj_JZ p l e R s m args below meth c E n cap Q pc ls st h cl rc rs := by
  obtain ⟨hx, hb, hml, hown, hts, hK, hlocks, hret, hini, ⟨htab, hdx, hk, hthr⟩, hst, hRf, hRl, hn45, hcap, hR, hzb⟩ := C
  have had : ∀ k c, h[k]? = some c → h.length + rc ≤ cap → E.2.1 k = E.1 + k := fun k c hk hc => hK.2.2.2.2.2.2.2.2.2 k (by have := (List.getElem?_eq_some_iff.mp hk).1; omega)
  have hKK := hK.1.1
  intro H0 locs cells slots ls' st' hat
  obtain ⟨hI, hS, hc, hs, hcp, hL, hSt⟩ := hat
  obtain ⟨x, y, z, t, rfl, h1, h2⟩ := H
  obtain ⟨t', e0, hSt9⟩ := mj_St_l hSt
  clear hSt
  subst e0
  have hSt := hSt9
  clear hSt9
  obtain ⟨t', e0, hSt9⟩ := mj_St_l hSt
  clear hSt
  subst e0
  have hSt := hSt9
  clear hSt9
  obtain ⟨r, hr, hdc, rfl⟩ := mj_len_dc (fun _ h => by cases h) hw
  cases List.mem_singleton.mp hr
  cases h1
  exact lv_lmul hx hb hdc (ih _ _ _ _ _ _ h2 _ _ _ _ _ _ ⟨hI, hS, hc, hs, hcp, hL, mj_St_1 (mj_V_of rfl) hSt⟩)
set_option maxHeartbeats 400000 in
set_option maxRecDepth 100000 in
theorem mj_s_ldiv (C : mj_Ctx p l R s m args meth c E sc sx sv n cap d j own cc ret ini Rr Q) (hw : mj_len own cc ret ini pc (.ldiv) = some w) (kd0 : mj_kd (.ldiv) = true)
    (ih : ∀ ls st h cl rc rs, mj_b sc mj_tx mj_na Rr (mj_hd j) (mj_JZ p l e R s m args below meth c E n cap Q) Q is ft ls st h cl rc rs → mj_JZ p l e R s m args below meth c E n cap Q (pc + w) ls st h cl rc rs)
    (H : mj_b sc mj_tx mj_na Rr (mj_hd j) (mj_JZ p l e R s m args below meth c E n cap Q) Q ((pc, .ldiv) :: is) ft ls st h cl rc rs) : mj_JZ p l e R s m args below meth c E n cap Q pc ls st h cl rc rs := by
  obtain ⟨hx, hb, hml, hown, hts, hK, hlocks, hret, hini, ⟨htab, hdx, hk, hthr⟩, hst, hRf, hRl, hn45, hcap, hR, hzb⟩ := C
  have had : ∀ k c, h[k]? = some c → h.length + rc ≤ cap → E.2.1 k = E.1 + k := fun k c hk hc => hK.2.2.2.2.2.2.2.2.2 k (by have := (List.getElem?_eq_some_iff.mp hk).1; omega)
  have hKK := hK.1.1
  intro H0 locs cells slots ls' st' hat
  obtain ⟨hI, hS, hc, hs, hcp, hL, hSt⟩ := hat
  obtain ⟨x, y, z, t, rfl, h1, h2⟩ := H
  obtain ⟨t', e0, hSt9⟩ := mj_St_l hSt
  clear hSt
  subst e0
  have hSt := hSt9
  clear hSt9
  obtain ⟨t', e0, hSt9⟩ := mj_St_l hSt
  clear hSt
  subst e0
  have hSt := hSt9
  clear hSt9
  obtain ⟨r, hr, hdc, rfl⟩ := mj_len_dc (fun _ h => by cases h) hw
  cases List.mem_singleton.mp hr
  have hne : ¬ y = 0 := fun q => by simp [mj_l2, q] at h1
  have hz : x / y = z := by simpa [mj_l2, hne] using h1
  subst hz
  exact lv_ldiv hx hb hdc hne (ih _ _ _ _ _ _ h2 _ _ _ _ _ _ ⟨hI, hS, hc, hs, hcp, hL, mj_St_1 (mj_V_of rfl) hSt⟩)
theorem mj_irem (x y : Int32) : x - x / y * y = x % y := by
  apply Int32.toInt.inj
  rw [Int32.toInt_sub, Int32.toInt_mul, Int32.toInt_div, Int32.toInt_mod, Int.bmod_mul_bmod, Int.sub_bmod_bmod]
  have e : x.toInt - x.toInt.tdiv y.toInt * y.toInt = (x % y).toInt := by
    rw [Int32.toInt_mod, Int.tmod_def, Int.mul_comm]
  rw [e, ← Int32.toInt_mod]
  exact Int32.toInt_bmod _
set_option maxHeartbeats 400000 in
set_option maxRecDepth 100000 in
theorem mj_s_iadd (C : mj_Ctx p l R s m args meth c E sc sx sv n cap d j own cc ret ini Rr Q) (hw : mj_len own cc ret ini pc (.iadd) = some w) (kd0 : mj_kd (.iadd) = true)
    (ih : ∀ ls st h cl rc rs, mj_b sc mj_tx mj_na Rr (mj_hd j) (mj_JZ p l e R s m args below meth c E n cap Q) Q is ft ls st h cl rc rs → mj_JZ p l e R s m args below meth c E n cap Q (pc + w) ls st h cl rc rs)
    (H : mj_b sc mj_tx mj_na Rr (mj_hd j) (mj_JZ p l e R s m args below meth c E n cap Q) Q ((pc, .iadd) :: is) ft ls st h cl rc rs) : mj_JZ p l e R s m args below meth c E n cap Q pc ls st h cl rc rs := by
  obtain ⟨hx, hb, hml, hown, hts, hK, hlocks, hret, hini, ⟨htab, hdx, hk, hthr⟩, hst, hRf, hRl, hn45, hcap, hR, hzb⟩ := C
  have had : ∀ k c, h[k]? = some c → h.length + rc ≤ cap → E.2.1 k = E.1 + k := fun k c hk hc => hK.2.2.2.2.2.2.2.2.2 k (by have := (List.getElem?_eq_some_iff.mp hk).1; omega)
  have hKK := hK.1.1
  intro H0 locs cells slots ls' st' hat
  obtain ⟨hI, hS, hc, hs, hcp, hL, hSt⟩ := hat
  obtain ⟨x, y, z, t, rfl, h1, h2⟩ := H
  obtain ⟨t', e0, hSt9⟩ := mj_St_i hSt
  clear hSt
  subst e0
  have hSt := hSt9
  clear hSt9
  obtain ⟨t', e0, hSt9⟩ := mj_St_i hSt
  clear hSt
  subst e0
  have hSt := hSt9
  clear hSt9
  obtain ⟨r, hr, hdc, rfl⟩ := mj_len_dc (fun _ h => by cases h) hw
  cases List.mem_singleton.mp hr
  cases h1
  exact lv_iadd hx hb hdc (ih _ _ _ _ _ _ h2 _ _ _ _ _ _ ⟨hI, hS, hc, hs, hcp, hL, mj_St_1 (mj_V_of rfl) hSt⟩)
set_option maxHeartbeats 400000 in
set_option maxRecDepth 100000 in
theorem mj_s_isub (C : mj_Ctx p l R s m args meth c E sc sx sv n cap d j own cc ret ini Rr Q) (hw : mj_len own cc ret ini pc (.isub) = some w) (kd0 : mj_kd (.isub) = true)
    (ih : ∀ ls st h cl rc rs, mj_b sc mj_tx mj_na Rr (mj_hd j) (mj_JZ p l e R s m args below meth c E n cap Q) Q is ft ls st h cl rc rs → mj_JZ p l e R s m args below meth c E n cap Q (pc + w) ls st h cl rc rs)
    (H : mj_b sc mj_tx mj_na Rr (mj_hd j) (mj_JZ p l e R s m args below meth c E n cap Q) Q ((pc, .isub) :: is) ft ls st h cl rc rs) : mj_JZ p l e R s m args below meth c E n cap Q pc ls st h cl rc rs := by
  obtain ⟨hx, hb, hml, hown, hts, hK, hlocks, hret, hini, ⟨htab, hdx, hk, hthr⟩, hst, hRf, hRl, hn45, hcap, hR, hzb⟩ := C
  have had : ∀ k c, h[k]? = some c → h.length + rc ≤ cap → E.2.1 k = E.1 + k := fun k c hk hc => hK.2.2.2.2.2.2.2.2.2 k (by have := (List.getElem?_eq_some_iff.mp hk).1; omega)
  have hKK := hK.1.1
  intro H0 locs cells slots ls' st' hat
  obtain ⟨hI, hS, hc, hs, hcp, hL, hSt⟩ := hat
  obtain ⟨x, y, z, t, rfl, h1, h2⟩ := H
  obtain ⟨t', e0, hSt9⟩ := mj_St_i hSt
  clear hSt
  subst e0
  have hSt := hSt9
  clear hSt9
  obtain ⟨t', e0, hSt9⟩ := mj_St_i hSt
  clear hSt
  subst e0
  have hSt := hSt9
  clear hSt9
  obtain ⟨r, hr, hdc, rfl⟩ := mj_len_dc (fun _ h => by cases h) hw
  cases List.mem_singleton.mp hr
  cases h1
  exact lv_isub hx hb hdc (ih _ _ _ _ _ _ h2 _ _ _ _ _ _ ⟨hI, hS, hc, hs, hcp, hL, mj_St_1 (mj_V_of rfl) hSt⟩)
set_option maxHeartbeats 400000 in
set_option maxRecDepth 100000 in
theorem mj_s_imul (C : mj_Ctx p l R s m args meth c E sc sx sv n cap d j own cc ret ini Rr Q) (hw : mj_len own cc ret ini pc (.imul) = some w) (kd0 : mj_kd (.imul) = true)
    (ih : ∀ ls st h cl rc rs, mj_b sc mj_tx mj_na Rr (mj_hd j) (mj_JZ p l e R s m args below meth c E n cap Q) Q is ft ls st h cl rc rs → mj_JZ p l e R s m args below meth c E n cap Q (pc + w) ls st h cl rc rs)
    (H : mj_b sc mj_tx mj_na Rr (mj_hd j) (mj_JZ p l e R s m args below meth c E n cap Q) Q ((pc, .imul) :: is) ft ls st h cl rc rs) : mj_JZ p l e R s m args below meth c E n cap Q pc ls st h cl rc rs := by
  obtain ⟨hx, hb, hml, hown, hts, hK, hlocks, hret, hini, ⟨htab, hdx, hk, hthr⟩, hst, hRf, hRl, hn45, hcap, hR, hzb⟩ := C
  have had : ∀ k c, h[k]? = some c → h.length + rc ≤ cap → E.2.1 k = E.1 + k := fun k c hk hc => hK.2.2.2.2.2.2.2.2.2 k (by have := (List.getElem?_eq_some_iff.mp hk).1; omega)
  have hKK := hK.1.1
  intro H0 locs cells slots ls' st' hat
  obtain ⟨hI, hS, hc, hs, hcp, hL, hSt⟩ := hat
  obtain ⟨x, y, z, t, rfl, h1, h2⟩ := H
  obtain ⟨t', e0, hSt9⟩ := mj_St_i hSt
  clear hSt
  subst e0
  have hSt := hSt9
  clear hSt9
  obtain ⟨t', e0, hSt9⟩ := mj_St_i hSt
  clear hSt
  subst e0
  have hSt := hSt9
  clear hSt9
  obtain ⟨r, hr, hdc, rfl⟩ := mj_len_dc (fun _ h => by cases h) hw
  cases List.mem_singleton.mp hr
  cases h1
  exact lv_imul hx hb hdc (ih _ _ _ _ _ _ h2 _ _ _ _ _ _ ⟨hI, hS, hc, hs, hcp, hL, mj_St_1 (mj_V_of rfl) hSt⟩)
set_option maxHeartbeats 400000 in
set_option maxRecDepth 100000 in
theorem mj_s_iand (C : mj_Ctx p l R s m args meth c E sc sx sv n cap d j own cc ret ini Rr Q) (hw : mj_len own cc ret ini pc (.iand) = some w) (kd0 : mj_kd (.iand) = true)
    (ih : ∀ ls st h cl rc rs, mj_b sc mj_tx mj_na Rr (mj_hd j) (mj_JZ p l e R s m args below meth c E n cap Q) Q is ft ls st h cl rc rs → mj_JZ p l e R s m args below meth c E n cap Q (pc + w) ls st h cl rc rs)
    (H : mj_b sc mj_tx mj_na Rr (mj_hd j) (mj_JZ p l e R s m args below meth c E n cap Q) Q ((pc, .iand) :: is) ft ls st h cl rc rs) : mj_JZ p l e R s m args below meth c E n cap Q pc ls st h cl rc rs := by
  obtain ⟨hx, hb, hml, hown, hts, hK, hlocks, hret, hini, ⟨htab, hdx, hk, hthr⟩, hst, hRf, hRl, hn45, hcap, hR, hzb⟩ := C
  have had : ∀ k c, h[k]? = some c → h.length + rc ≤ cap → E.2.1 k = E.1 + k := fun k c hk hc => hK.2.2.2.2.2.2.2.2.2 k (by have := (List.getElem?_eq_some_iff.mp hk).1; omega)
  have hKK := hK.1.1
  intro H0 locs cells slots ls' st' hat
  obtain ⟨hI, hS, hc, hs, hcp, hL, hSt⟩ := hat
  obtain ⟨x, y, z, t, rfl, h1, h2⟩ := H
  obtain ⟨t', e0, hSt9⟩ := mj_St_i hSt
  clear hSt
  subst e0
  have hSt := hSt9
  clear hSt9
  obtain ⟨t', e0, hSt9⟩ := mj_St_i hSt
  clear hSt
  subst e0
  have hSt := hSt9
  clear hSt9
  obtain ⟨r, hr, hdc, rfl⟩ := mj_len_dc (fun _ h => by cases h) hw
  cases List.mem_singleton.mp hr
  cases h1
  exact lv_iand hx hb hdc (ih _ _ _ _ _ _ h2 _ _ _ _ _ _ ⟨hI, hS, hc, hs, hcp, hL, mj_St_1 (mj_V_of rfl) hSt⟩)
set_option maxHeartbeats 400000 in
set_option maxRecDepth 100000 in
theorem mj_s_ior (C : mj_Ctx p l R s m args meth c E sc sx sv n cap d j own cc ret ini Rr Q) (hw : mj_len own cc ret ini pc (.ior) = some w) (kd0 : mj_kd (.ior) = true)
    (ih : ∀ ls st h cl rc rs, mj_b sc mj_tx mj_na Rr (mj_hd j) (mj_JZ p l e R s m args below meth c E n cap Q) Q is ft ls st h cl rc rs → mj_JZ p l e R s m args below meth c E n cap Q (pc + w) ls st h cl rc rs)
    (H : mj_b sc mj_tx mj_na Rr (mj_hd j) (mj_JZ p l e R s m args below meth c E n cap Q) Q ((pc, .ior) :: is) ft ls st h cl rc rs) : mj_JZ p l e R s m args below meth c E n cap Q pc ls st h cl rc rs := by
  obtain ⟨hx, hb, hml, hown, hts, hK, hlocks, hret, hini, ⟨htab, hdx, hk, hthr⟩, hst, hRf, hRl, hn45, hcap, hR, hzb⟩ := C
  have had : ∀ k c, h[k]? = some c → h.length + rc ≤ cap → E.2.1 k = E.1 + k := fun k c hk hc => hK.2.2.2.2.2.2.2.2.2 k (by have := (List.getElem?_eq_some_iff.mp hk).1; omega)
  have hKK := hK.1.1
  intro H0 locs cells slots ls' st' hat
  obtain ⟨hI, hS, hc, hs, hcp, hL, hSt⟩ := hat
  obtain ⟨x, y, z, t, rfl, h1, h2⟩ := H
  obtain ⟨t', e0, hSt9⟩ := mj_St_i hSt
  clear hSt
  subst e0
  have hSt := hSt9
  clear hSt9
  obtain ⟨t', e0, hSt9⟩ := mj_St_i hSt
  clear hSt
  subst e0
  have hSt := hSt9
  clear hSt9
  obtain ⟨r, hr, hdc, rfl⟩ := mj_len_dc (fun _ h => by cases h) hw
  cases List.mem_singleton.mp hr
  cases h1
  exact lv_ior hx hb hdc (ih _ _ _ _ _ _ h2 _ _ _ _ _ _ ⟨hI, hS, hc, hs, hcp, hL, mj_St_1 (mj_V_of rfl) hSt⟩)
set_option maxHeartbeats 400000 in
set_option maxRecDepth 100000 in
theorem mj_s_ixor (C : mj_Ctx p l R s m args meth c E sc sx sv n cap d j own cc ret ini Rr Q) (hw : mj_len own cc ret ini pc (.ixor) = some w) (kd0 : mj_kd (.ixor) = true)
    (ih : ∀ ls st h cl rc rs, mj_b sc mj_tx mj_na Rr (mj_hd j) (mj_JZ p l e R s m args below meth c E n cap Q) Q is ft ls st h cl rc rs → mj_JZ p l e R s m args below meth c E n cap Q (pc + w) ls st h cl rc rs)
    (H : mj_b sc mj_tx mj_na Rr (mj_hd j) (mj_JZ p l e R s m args below meth c E n cap Q) Q ((pc, .ixor) :: is) ft ls st h cl rc rs) : mj_JZ p l e R s m args below meth c E n cap Q pc ls st h cl rc rs := by
  obtain ⟨hx, hb, hml, hown, hts, hK, hlocks, hret, hini, ⟨htab, hdx, hk, hthr⟩, hst, hRf, hRl, hn45, hcap, hR, hzb⟩ := C
  have had : ∀ k c, h[k]? = some c → h.length + rc ≤ cap → E.2.1 k = E.1 + k := fun k c hk hc => hK.2.2.2.2.2.2.2.2.2 k (by have := (List.getElem?_eq_some_iff.mp hk).1; omega)
  have hKK := hK.1.1
  intro H0 locs cells slots ls' st' hat
  obtain ⟨hI, hS, hc, hs, hcp, hL, hSt⟩ := hat
  obtain ⟨x, y, z, t, rfl, h1, h2⟩ := H
  obtain ⟨t', e0, hSt9⟩ := mj_St_i hSt
  clear hSt
  subst e0
  have hSt := hSt9
  clear hSt9
  obtain ⟨t', e0, hSt9⟩ := mj_St_i hSt
  clear hSt
  subst e0
  have hSt := hSt9
  clear hSt9
  obtain ⟨r, hr, hdc, rfl⟩ := mj_len_dc (fun _ h => by cases h) hw
  cases List.mem_singleton.mp hr
  cases h1
  exact lv_ixor hx hb hdc (ih _ _ _ _ _ _ h2 _ _ _ _ _ _ ⟨hI, hS, hc, hs, hcp, hL, mj_St_1 (mj_V_of rfl) hSt⟩)
set_option maxHeartbeats 400000 in
set_option maxRecDepth 100000 in
theorem mj_s_ishl (C : mj_Ctx p l R s m args meth c E sc sx sv n cap d j own cc ret ini Rr Q) (hw : mj_len own cc ret ini pc (.ishl) = some w) (kd0 : mj_kd (.ishl) = true)
    (ih : ∀ ls st h cl rc rs, mj_b sc mj_tx mj_na Rr (mj_hd j) (mj_JZ p l e R s m args below meth c E n cap Q) Q is ft ls st h cl rc rs → mj_JZ p l e R s m args below meth c E n cap Q (pc + w) ls st h cl rc rs)
    (H : mj_b sc mj_tx mj_na Rr (mj_hd j) (mj_JZ p l e R s m args below meth c E n cap Q) Q ((pc, .ishl) :: is) ft ls st h cl rc rs) : mj_JZ p l e R s m args below meth c E n cap Q pc ls st h cl rc rs := by
  obtain ⟨hx, hb, hml, hown, hts, hK, hlocks, hret, hini, ⟨htab, hdx, hk, hthr⟩, hst, hRf, hRl, hn45, hcap, hR, hzb⟩ := C
  have had : ∀ k c, h[k]? = some c → h.length + rc ≤ cap → E.2.1 k = E.1 + k := fun k c hk hc => hK.2.2.2.2.2.2.2.2.2 k (by have := (List.getElem?_eq_some_iff.mp hk).1; omega)
  have hKK := hK.1.1
  intro H0 locs cells slots ls' st' hat
  obtain ⟨hI, hS, hc, hs, hcp, hL, hSt⟩ := hat
  obtain ⟨x, y, z, t, rfl, h1, h2⟩ := H
  obtain ⟨t', e0, hSt9⟩ := mj_St_i hSt
  clear hSt
  subst e0
  have hSt := hSt9
  clear hSt9
  obtain ⟨t', e0, hSt9⟩ := mj_St_i hSt
  clear hSt
  subst e0
  have hSt := hSt9
  clear hSt9
  obtain ⟨r, hr, hdc, rfl⟩ := mj_len_dc (fun _ h => by cases h) hw
  cases List.mem_singleton.mp hr
  cases h1
  exact lv_ishl hx hb hdc (ih _ _ _ _ _ _ h2 _ _ _ _ _ _ ⟨hI, hS, hc, hs, hcp, hL, mj_St_1 (mj_V_of rfl) hSt⟩)
set_option maxHeartbeats 400000 in
set_option maxRecDepth 100000 in
theorem mj_s_ishr (C : mj_Ctx p l R s m args meth c E sc sx sv n cap d j own cc ret ini Rr Q) (hw : mj_len own cc ret ini pc (.ishr) = some w) (kd0 : mj_kd (.ishr) = true)
    (ih : ∀ ls st h cl rc rs, mj_b sc mj_tx mj_na Rr (mj_hd j) (mj_JZ p l e R s m args below meth c E n cap Q) Q is ft ls st h cl rc rs → mj_JZ p l e R s m args below meth c E n cap Q (pc + w) ls st h cl rc rs)
    (H : mj_b sc mj_tx mj_na Rr (mj_hd j) (mj_JZ p l e R s m args below meth c E n cap Q) Q ((pc, .ishr) :: is) ft ls st h cl rc rs) : mj_JZ p l e R s m args below meth c E n cap Q pc ls st h cl rc rs := by
  obtain ⟨hx, hb, hml, hown, hts, hK, hlocks, hret, hini, ⟨htab, hdx, hk, hthr⟩, hst, hRf, hRl, hn45, hcap, hR, hzb⟩ := C
  have had : ∀ k c, h[k]? = some c → h.length + rc ≤ cap → E.2.1 k = E.1 + k := fun k c hk hc => hK.2.2.2.2.2.2.2.2.2 k (by have := (List.getElem?_eq_some_iff.mp hk).1; omega)
  have hKK := hK.1.1
  intro H0 locs cells slots ls' st' hat
  obtain ⟨hI, hS, hc, hs, hcp, hL, hSt⟩ := hat
  obtain ⟨x, y, z, t, rfl, h1, h2⟩ := H
  obtain ⟨t', e0, hSt9⟩ := mj_St_i hSt
  clear hSt
  subst e0
  have hSt := hSt9
  clear hSt9
  obtain ⟨t', e0, hSt9⟩ := mj_St_i hSt
  clear hSt
  subst e0
  have hSt := hSt9
  clear hSt9
  obtain ⟨r, hr, hdc, rfl⟩ := mj_len_dc (fun _ h => by cases h) hw
  cases List.mem_singleton.mp hr
  cases h1
  exact lv_ishr hx hb hdc (ih _ _ _ _ _ _ h2 _ _ _ _ _ _ ⟨hI, hS, hc, hs, hcp, hL, mj_St_1 (mj_V_of rfl) hSt⟩)
set_option maxHeartbeats 400000 in
set_option maxRecDepth 100000 in
theorem mj_s_iushr (C : mj_Ctx p l R s m args meth c E sc sx sv n cap d j own cc ret ini Rr Q) (hw : mj_len own cc ret ini pc (.iushr) = some w) (kd0 : mj_kd (.iushr) = true)
    (ih : ∀ ls st h cl rc rs, mj_b sc mj_tx mj_na Rr (mj_hd j) (mj_JZ p l e R s m args below meth c E n cap Q) Q is ft ls st h cl rc rs → mj_JZ p l e R s m args below meth c E n cap Q (pc + w) ls st h cl rc rs)
    (H : mj_b sc mj_tx mj_na Rr (mj_hd j) (mj_JZ p l e R s m args below meth c E n cap Q) Q ((pc, .iushr) :: is) ft ls st h cl rc rs) : mj_JZ p l e R s m args below meth c E n cap Q pc ls st h cl rc rs := by
  obtain ⟨hx, hb, hml, hown, hts, hK, hlocks, hret, hini, ⟨htab, hdx, hk, hthr⟩, hst, hRf, hRl, hn45, hcap, hR, hzb⟩ := C
  have had : ∀ k c, h[k]? = some c → h.length + rc ≤ cap → E.2.1 k = E.1 + k := fun k c hk hc => hK.2.2.2.2.2.2.2.2.2 k (by have := (List.getElem?_eq_some_iff.mp hk).1; omega)
  have hKK := hK.1.1
  intro H0 locs cells slots ls' st' hat
  obtain ⟨hI, hS, hc, hs, hcp, hL, hSt⟩ := hat
  obtain ⟨x, y, z, t, rfl, h1, h2⟩ := H
  obtain ⟨t', e0, hSt9⟩ := mj_St_i hSt
  clear hSt
  subst e0
  have hSt := hSt9
  clear hSt9
  obtain ⟨t', e0, hSt9⟩ := mj_St_i hSt
  clear hSt
  subst e0
  have hSt := hSt9
  clear hSt9
  obtain ⟨r, hr, hdc, rfl⟩ := mj_len_dc (fun _ h => by cases h) hw
  cases List.mem_singleton.mp hr
  cases h1
  exact lv_iushr hx hb hdc rfl (ih _ _ _ _ _ _ h2 _ _ _ _ _ _ ⟨hI, hS, hc, hs, hcp, hL, mj_St_1 (mj_V_of rfl) hSt⟩)
set_option maxHeartbeats 400000 in
set_option maxRecDepth 100000 in
theorem mj_s_idiv (C : mj_Ctx p l R s m args meth c E sc sx sv n cap d j own cc ret ini Rr Q) (hw : mj_len own cc ret ini pc (.idiv) = some w) (kd0 : mj_kd (.idiv) = true)
    (ih : ∀ ls st h cl rc rs, mj_b sc mj_tx mj_na Rr (mj_hd j) (mj_JZ p l e R s m args below meth c E n cap Q) Q is ft ls st h cl rc rs → mj_JZ p l e R s m args below meth c E n cap Q (pc + w) ls st h cl rc rs)
    (H : mj_b sc mj_tx mj_na Rr (mj_hd j) (mj_JZ p l e R s m args below meth c E n cap Q) Q ((pc, .idiv) :: is) ft ls st h cl rc rs) : mj_JZ p l e R s m args below meth c E n cap Q pc ls st h cl rc rs := by
  obtain ⟨hx, hb, hml, hown, hts, hK, hlocks, hret, hini, ⟨htab, hdx, hk, hthr⟩, hst, hRf, hRl, hn45, hcap, hR, hzb⟩ := C
  have had : ∀ k c, h[k]? = some c → h.length + rc ≤ cap → E.2.1 k = E.1 + k := fun k c hk hc => hK.2.2.2.2.2.2.2.2.2 k (by have := (List.getElem?_eq_some_iff.mp hk).1; omega)
  have hKK := hK.1.1
  intro H0 locs cells slots ls' st' hat
  obtain ⟨hI, hS, hc, hs, hcp, hL, hSt⟩ := hat
  obtain ⟨x, y, z, t, rfl, h1, h2⟩ := H
  obtain ⟨t', e0, hSt9⟩ := mj_St_i hSt
  clear hSt
  subst e0
  have hSt := hSt9
  clear hSt9
  obtain ⟨t', e0, hSt9⟩ := mj_St_i hSt
  clear hSt
  subst e0
  have hSt := hSt9
  clear hSt9
  obtain ⟨r, hr, hdc, rfl⟩ := mj_len_dc (fun _ h => by cases h) hw
  cases List.mem_singleton.mp hr
  have hne : ¬ y = 0 := fun q => by simp [mj_a2, q] at h1
  have hz : x / y = z := by simpa [mj_a2, hne] using h1
  subst hz
  exact lv_idiv hx hb hdc hne (ih _ _ _ _ _ _ h2 _ _ _ _ _ _ ⟨hI, hS, hc, hs, hcp, hL, mj_St_1 (mj_V_of rfl) hSt⟩)
set_option maxHeartbeats 400000 in
set_option maxRecDepth 100000 in
theorem mj_s_irem (C : mj_Ctx p l R s m args meth c E sc sx sv n cap d j own cc ret ini Rr Q) (hw : mj_len own cc ret ini pc (.irem) = some w) (kd0 : mj_kd (.irem) = true)
    (ih : ∀ ls st h cl rc rs, mj_b sc mj_tx mj_na Rr (mj_hd j) (mj_JZ p l e R s m args below meth c E n cap Q) Q is ft ls st h cl rc rs → mj_JZ p l e R s m args below meth c E n cap Q (pc + w) ls st h cl rc rs)
    (H : mj_b sc mj_tx mj_na Rr (mj_hd j) (mj_JZ p l e R s m args below meth c E n cap Q) Q ((pc, .irem) :: is) ft ls st h cl rc rs) : mj_JZ p l e R s m args below meth c E n cap Q pc ls st h cl rc rs := by
  obtain ⟨hx, hb, hml, hown, hts, hK, hlocks, hret, hini, ⟨htab, hdx, hk, hthr⟩, hst, hRf, hRl, hn45, hcap, hR, hzb⟩ := C
  have had : ∀ k c, h[k]? = some c → h.length + rc ≤ cap → E.2.1 k = E.1 + k := fun k c hk hc => hK.2.2.2.2.2.2.2.2.2 k (by have := (List.getElem?_eq_some_iff.mp hk).1; omega)
  have hKK := hK.1.1
  intro H0 locs cells slots ls' st' hat
  obtain ⟨hI, hS, hc, hs, hcp, hL, hSt⟩ := hat
  obtain ⟨x, y, z, t, rfl, h1, h2⟩ := H
  obtain ⟨t', e0, hSt9⟩ := mj_St_i hSt
  clear hSt
  subst e0
  have hSt := hSt9
  clear hSt9
  obtain ⟨t', e0, hSt9⟩ := mj_St_i hSt
  clear hSt
  subst e0
  have hSt := hSt9
  clear hSt9
  obtain ⟨r, hr, hdc, rfl⟩ := mj_len_dc (fun _ h => by cases h) hw
  cases List.mem_singleton.mp hr
  have hne : ¬ y = 0 := fun q => by simp [mj_a2, q] at h1
  have hz : x % y = z := by simpa [mj_a2, hne] using h1
  subst hz
  exact lv_irem hx hb hdc hne (by rw [mj_irem]; exact ih _ _ _ _ _ _ h2 _ _ _ _ _ _ ⟨hI, hS, hc, hs, hcp, hL, mj_St_1 (mj_V_of rfl) hSt⟩)
set_option maxHeartbeats 400000 in
set_option maxRecDepth 100000 in
theorem mj_s_goto (t : Int) (C : mj_Ctx p l R s m args meth c E sc sx sv n cap d j own cc ret ini Rr Q) (hw : mj_len own cc ret ini pc (.goto t) = some w) (kd0 : mj_kd (.goto t) = true)
    (ih : ∀ ls st h cl rc rs, mj_b sc mj_tx mj_na Rr (mj_hd j) (mj_JZ p l e R s m args below meth c E n cap Q) Q is ft ls st h cl rc rs → mj_JZ p l e R s m args below meth c E n cap Q (pc + w) ls st h cl rc rs)
    (H : mj_b sc mj_tx mj_na Rr (mj_hd j) (mj_JZ p l e R s m args below meth c E n cap Q) Q ((pc, .goto t) :: is) ft ls st h cl rc rs) : mj_JZ p l e R s m args below meth c E n cap Q pc ls st h cl rc rs := by
  obtain ⟨hx, hb, hml, hown, hts, hK, hlocks, hret, hini, ⟨htab, hdx, hk, hthr⟩, hst, hRf, hRl, hn45, hcap, hR, hzb⟩ := C
  have had : ∀ k c, h[k]? = some c → h.length + rc ≤ cap → E.2.1 k = E.1 + k := fun k c hk hc => hK.2.2.2.2.2.2.2.2.2 k (by have := (List.getElem?_eq_some_iff.mp hk).1; omega)
  have hKK := hK.1.1
  intro H0 locs cells slots ls' st' hat
  obtain ⟨hI, hS, hc, hs, hcp, hL, hSt⟩ := hat
  obtain ⟨r, hr, hdc, rfl⟩ := mj_len_dc (fun _ h => by cases h) hw
  obtain ⟨g, hr⟩ := mj_if hr
  cases List.mem_singleton.mp hr
  exact lv_goto hx hb hdc (mj_tgt g) (H _ _ _ _ _ _ ⟨hI, hS, hc, hs, hcp, hL, hSt⟩)
set_option maxHeartbeats 400000 in
set_option maxRecDepth 100000 in
theorem mj_s_ifCond (k : ClassFile.Cond) (t : Int) (C : mj_Ctx p l R s m args meth c E sc sx sv n cap d j own cc ret ini Rr Q) (hw : mj_len own cc ret ini pc (.ifCond k t) = some w) (kd0 : mj_kd (.ifCond k t) = true)
    (ih : ∀ ls st h cl rc rs, mj_b sc mj_tx mj_na Rr (mj_hd j) (mj_JZ p l e R s m args below meth c E n cap Q) Q is ft ls st h cl rc rs → mj_JZ p l e R s m args below meth c E n cap Q (pc + w) ls st h cl rc rs)
    (H : mj_b sc mj_tx mj_na Rr (mj_hd j) (mj_JZ p l e R s m args below meth c E n cap Q) Q ((pc, .ifCond k t) :: is) ft ls st h cl rc rs) : mj_JZ p l e R s m args below meth c E n cap Q pc ls st h cl rc rs := by
  obtain ⟨hx, hb, hml, hown, hts, hK, hlocks, hret, hini, ⟨htab, hdx, hk, hthr⟩, hst, hRf, hRl, hn45, hcap, hR, hzb⟩ := C
  have had : ∀ k c, h[k]? = some c → h.length + rc ≤ cap → E.2.1 k = E.1 + k := fun k c hk hc => hK.2.2.2.2.2.2.2.2.2 k (by have := (List.getElem?_eq_some_iff.mp hk).1; omega)
  have hKK := hK.1.1
  intro H0 locs cells slots ls' st' hat
  obtain ⟨hI, hS, hc, hs, hcp, hL, hSt⟩ := hat
  obtain ⟨x, t2, rfl, h1, h2⟩ := H
  obtain ⟨t', e0, hSt9⟩ := mj_St_i hSt
  clear hSt
  subst e0
  have hSt := hSt9
  clear hSt9
  obtain ⟨r, hr, hdc, rfl⟩ := mj_len_dc (fun _ h => by cases h) hw
  obtain ⟨g, hr⟩ := mj_if hr
  cases List.mem_singleton.mp hr
  cases k
  · exact lv_if_eq hx hb hdc (mj_tgt g) (fun q => h1 q _ _ _ _ _ _ ⟨hI, hS, hc, hs, hcp, hL, hSt⟩) (fun q => ih _ _ _ _ _ _ (h2 (q)) _ _ _ _ _ _ ⟨hI, hS, hc, hs, hcp, hL, hSt⟩)
  · exact lv_if_ne hx hb hdc (mj_tgt g) (fun q => h1 q _ _ _ _ _ _ ⟨hI, hS, hc, hs, hcp, hL, hSt⟩) (fun q => ih _ _ _ _ _ _ (h2 (not_not_intro q)) _ _ _ _ _ _ ⟨hI, hS, hc, hs, hcp, hL, hSt⟩)
  · exact lv_if_lt hx hb hdc (mj_tgt g) (fun q => h1 q _ _ _ _ _ _ ⟨hI, hS, hc, hs, hcp, hL, hSt⟩) (fun q => ih _ _ _ _ _ _ (h2 (q)) _ _ _ _ _ _ ⟨hI, hS, hc, hs, hcp, hL, hSt⟩)
  · exact lv_if_ge hx hb hdc (mj_tgt g) (fun q => h1 q _ _ _ _ _ _ ⟨hI, hS, hc, hs, hcp, hL, hSt⟩) (fun q => ih _ _ _ _ _ _ (h2 (q)) _ _ _ _ _ _ ⟨hI, hS, hc, hs, hcp, hL, hSt⟩)
  · exact lv_if_gt hx hb hdc (mj_tgt g) (fun q => h1 q _ _ _ _ _ _ ⟨hI, hS, hc, hs, hcp, hL, hSt⟩) (fun q => ih _ _ _ _ _ _ (h2 (q)) _ _ _ _ _ _ ⟨hI, hS, hc, hs, hcp, hL, hSt⟩)
  · exact lv_if_le hx hb hdc (mj_tgt g) (fun q => h1 q _ _ _ _ _ _ ⟨hI, hS, hc, hs, hcp, hL, hSt⟩) (fun q => ih _ _ _ _ _ _ (h2 (q)) _ _ _ _ _ _ ⟨hI, hS, hc, hs, hcp, hL, hSt⟩)
set_option maxHeartbeats 400000 in
set_option maxRecDepth 100000 in
theorem mj_s_if_icmp (k : ClassFile.Cond) (t : Int) (C : mj_Ctx p l R s m args meth c E sc sx sv n cap d j own cc ret ini Rr Q) (hw : mj_len own cc ret ini pc (.if_icmp k t) = some w) (kd0 : mj_kd (.if_icmp k t) = true)
    (ih : ∀ ls st h cl rc rs, mj_b sc mj_tx mj_na Rr (mj_hd j) (mj_JZ p l e R s m args below meth c E n cap Q) Q is ft ls st h cl rc rs → mj_JZ p l e R s m args below meth c E n cap Q (pc + w) ls st h cl rc rs)
    (H : mj_b sc mj_tx mj_na Rr (mj_hd j) (mj_JZ p l e R s m args below meth c E n cap Q) Q ((pc, .if_icmp k t) :: is) ft ls st h cl rc rs) : mj_JZ p l e R s m args below meth c E n cap Q pc ls st h cl rc rs := by
  obtain ⟨hx, hb, hml, hown, hts, hK, hlocks, hret, hini, ⟨htab, hdx, hk, hthr⟩, hst, hRf, hRl, hn45, hcap, hR, hzb⟩ := C
  have had : ∀ k c, h[k]? = some c → h.length + rc ≤ cap → E.2.1 k = E.1 + k := fun k c hk hc => hK.2.2.2.2.2.2.2.2.2 k (by have := (List.getElem?_eq_some_iff.mp hk).1; omega)
  have hKK := hK.1.1
  intro H0 locs cells slots ls' st' hat
  obtain ⟨hI, hS, hc, hs, hcp, hL, hSt⟩ := hat
  obtain ⟨x, y, t2, rfl, h1, h2⟩ := H
  obtain ⟨t', e0, hSt9⟩ := mj_St_i hSt
  clear hSt
  subst e0
  have hSt := hSt9
  clear hSt9
  obtain ⟨t', e0, hSt9⟩ := mj_St_i hSt
  clear hSt
  subst e0
  have hSt := hSt9
  clear hSt9
  obtain ⟨r, hr, hdc, rfl⟩ := mj_len_dc (fun _ h => by cases h) hw
  obtain ⟨g, hr⟩ := mj_if hr
  cases List.mem_singleton.mp hr
  cases k
  · exact lv_icmp_eq hx hb hdc (mj_tgt g) (fun q => h1 q _ _ _ _ _ _ ⟨hI, hS, hc, hs, hcp, hL, hSt⟩) (fun q => ih _ _ _ _ _ _ (h2 (q)) _ _ _ _ _ _ ⟨hI, hS, hc, hs, hcp, hL, hSt⟩)
  · exact lv_icmp_ne hx hb hdc (mj_tgt g) (fun q => h1 q _ _ _ _ _ _ ⟨hI, hS, hc, hs, hcp, hL, hSt⟩) (fun q => ih _ _ _ _ _ _ (h2 (not_not_intro q)) _ _ _ _ _ _ ⟨hI, hS, hc, hs, hcp, hL, hSt⟩)
  · exact lv_icmp_lt hx hb hdc (mj_tgt g) (fun q => h1 q _ _ _ _ _ _ ⟨hI, hS, hc, hs, hcp, hL, hSt⟩) (fun q => ih _ _ _ _ _ _ (h2 (q)) _ _ _ _ _ _ ⟨hI, hS, hc, hs, hcp, hL, hSt⟩)
  · exact lv_icmp_ge hx hb hdc (mj_tgt g) (fun q => h1 q _ _ _ _ _ _ ⟨hI, hS, hc, hs, hcp, hL, hSt⟩) (fun q => ih _ _ _ _ _ _ (h2 (q)) _ _ _ _ _ _ ⟨hI, hS, hc, hs, hcp, hL, hSt⟩)
  · exact lv_icmp_gt hx hb hdc (mj_tgt g) (fun q => h1 q _ _ _ _ _ _ ⟨hI, hS, hc, hs, hcp, hL, hSt⟩) (fun q => ih _ _ _ _ _ _ (h2 (q)) _ _ _ _ _ _ ⟨hI, hS, hc, hs, hcp, hL, hSt⟩)
  · exact lv_icmp_le hx hb hdc (mj_tgt g) (fun q => h1 q _ _ _ _ _ _ ⟨hI, hS, hc, hs, hcp, hL, hSt⟩) (fun q => ih _ _ _ _ _ _ (h2 (q)) _ _ _ _ _ _ ⟨hI, hS, hc, hs, hcp, hL, hSt⟩)
set_option maxHeartbeats 400000 in
set_option maxRecDepth 100000 in
theorem mj_s_ifnull (t : Int) (C : mj_Ctx p l R s m args meth c E sc sx sv n cap d j own cc ret ini Rr Q) (hw : mj_len own cc ret ini pc (.ifnull t) = some w) (kd0 : mj_kd (.ifnull t) = true)
    (ih : ∀ ls st h cl rc rs, mj_b sc mj_tx mj_na Rr (mj_hd j) (mj_JZ p l e R s m args below meth c E n cap Q) Q is ft ls st h cl rc rs → mj_JZ p l e R s m args below meth c E n cap Q (pc + w) ls st h cl rc rs)
    (H : mj_b sc mj_tx mj_na Rr (mj_hd j) (mj_JZ p l e R s m args below meth c E n cap Q) Q ((pc, .ifnull t) :: is) ft ls st h cl rc rs) : mj_JZ p l e R s m args below meth c E n cap Q pc ls st h cl rc rs := by
  obtain ⟨hx, hb, hml, hown, hts, hK, hlocks, hret, hini, ⟨htab, hdx, hk, hthr⟩, hst, hRf, hRl, hn45, hcap, hR, hzb⟩ := C
  have had : ∀ k c, h[k]? = some c → h.length + rc ≤ cap → E.2.1 k = E.1 + k := fun k c hk hc => hK.2.2.2.2.2.2.2.2.2 k (by have := (List.getElem?_eq_some_iff.mp hk).1; omega)
  have hKK := hK.1.1
  intro H0 locs cells slots ls' st' hat
  obtain ⟨hI, hS, hc, hs, hcp, hL, hSt⟩ := hat
  obtain ⟨a, t2, rfl, h1⟩ := H
  obtain ⟨t', e0, hSt9⟩ := mj_St_r hSt
  clear hSt
  subst e0
  have hSt := hSt9
  clear hSt9
  obtain ⟨r, hr, hdc, rfl⟩ := mj_len_dc (fun _ h => by cases h) hw
  obtain ⟨g, hr⟩ := mj_if hr
  cases List.mem_singleton.mp hr
  exact lv_ifnull hx hb hdc (ih _ _ _ _ _ _ h1 _ _ _ _ _ _ ⟨hI, hS, hc, hs, hcp, hL, hSt⟩)
set_option maxHeartbeats 400000 in
set_option maxRecDepth 100000 in
theorem mj_s_ifnonnull (t : Int) (C : mj_Ctx p l R s m args meth c E sc sx sv n cap d j own cc ret ini Rr Q) (hw : mj_len own cc ret ini pc (.ifnonnull t) = some w) (kd0 : mj_kd (.ifnonnull t) = true)
    (ih : ∀ ls st h cl rc rs, mj_b sc mj_tx mj_na Rr (mj_hd j) (mj_JZ p l e R s m args below meth c E n cap Q) Q is ft ls st h cl rc rs → mj_JZ p l e R s m args below meth c E n cap Q (pc + w) ls st h cl rc rs)
    (H : mj_b sc mj_tx mj_na Rr (mj_hd j) (mj_JZ p l e R s m args below meth c E n cap Q) Q ((pc, .ifnonnull t) :: is) ft ls st h cl rc rs) : mj_JZ p l e R s m args below meth c E n cap Q pc ls st h cl rc rs := by
  obtain ⟨hx, hb, hml, hown, hts, hK, hlocks, hret, hini, ⟨htab, hdx, hk, hthr⟩, hst, hRf, hRl, hn45, hcap, hR, hzb⟩ := C
  have had : ∀ k c, h[k]? = some c → h.length + rc ≤ cap → E.2.1 k = E.1 + k := fun k c hk hc => hK.2.2.2.2.2.2.2.2.2 k (by have := (List.getElem?_eq_some_iff.mp hk).1; omega)
  have hKK := hK.1.1
  intro H0 locs cells slots ls' st' hat
  obtain ⟨hI, hS, hc, hs, hcp, hL, hSt⟩ := hat
  obtain ⟨a, t2, rfl, h1⟩ := H
  obtain ⟨t', e0, hSt9⟩ := mj_St_r hSt
  clear hSt
  subst e0
  have hSt := hSt9
  clear hSt9
  obtain ⟨r, hr, hdc, rfl⟩ := mj_len_dc (fun _ h => by cases h) hw
  obtain ⟨g, hr⟩ := mj_if hr
  cases List.mem_singleton.mp hr
  exact lv_ifnonnull hx hb hdc (mj_tgt g) (h1 _ _ _ _ _ _ ⟨hI, hS, hc, hs, hcp, hL, hSt⟩)
set_option maxHeartbeats 400000 in
set_option maxRecDepth 100000 in
theorem mj_s_tableswitch (dd : Int) (lo : Int) (hi : Int) (offs : Array Int) (C : mj_Ctx p l R s m args meth c E sc sx sv n cap d j own cc ret ini Rr Q) (hw : mj_len own cc ret ini pc (.tableswitch dd lo hi offs) = some w) (kd0 : mj_kd (.tableswitch dd lo hi offs) = true)
    (ih : ∀ ls st h cl rc rs, mj_b sc mj_tx mj_na Rr (mj_hd j) (mj_JZ p l e R s m args below meth c E n cap Q) Q is ft ls st h cl rc rs → mj_JZ p l e R s m args below meth c E n cap Q (pc + w) ls st h cl rc rs)
    (H : mj_b sc mj_tx mj_na Rr (mj_hd j) (mj_JZ p l e R s m args below meth c E n cap Q) Q ((pc, .tableswitch dd lo hi offs) :: is) ft ls st h cl rc rs) : mj_JZ p l e R s m args below meth c E n cap Q pc ls st h cl rc rs := by
  obtain ⟨hx, hb, hml, hown, hts, hK, hlocks, hret, hini, ⟨htab, hdx, hk, hthr⟩, hst, hRf, hRl, hn45, hcap, hR, hzb⟩ := C
  have had : ∀ k c, h[k]? = some c → h.length + rc ≤ cap → E.2.1 k = E.1 + k := fun k c hk hc => hK.2.2.2.2.2.2.2.2.2 k (by have := (List.getElem?_eq_some_iff.mp hk).1; omega)
  have hKK := hK.1.1
  intro H0 locs cells slots ls' st' hat
  obtain ⟨hI, hS, hc, hs, hcp, hL, hSt⟩ := hat
  obtain ⟨x, t2, rfl, h1, h2⟩ := H
  obtain ⟨t', e0, hSt9⟩ := mj_St_i hSt
  clear hSt
  subst e0
  have hSt := hSt9
  clear hSt9
  obtain ⟨r, hr, hdc, rfl⟩ := mj_len_dc (fun _ h => by cases h) hw
  obtain ⟨g, hr⟩ := mj_if hr
  cases List.mem_singleton.mp hr
  by_cases q : x.toInt < lo ∨ hi < x.toInt
  · exact lv_tableOut hx hb hdc q (mj_tgt g.1) (h1 q _ _ _ _ _ _ ⟨hI, hS, hc, hs, hcp, hL, hSt⟩)
  · obtain ⟨tt, ht, hj⟩ := h2 q
    have ht0 : 0 ≤ tt := by
      have := Array.all_eq_true'.mp g.2 tt (Array.mem_of_getElem? ht)
      simpa using this
    exact lv_tableIn hx hb hdc (fun z => q (Or.inl z)) (fun z => q (Or.inr z)) (by rw [Array.getElem?_map, ht]; rfl) (mj_tgt ht0) (hj _ _ _ _ _ _ ⟨hI, hS, hc, hs, hcp, hL, hSt⟩)
set_option maxHeartbeats 400000 in
set_option maxRecDepth 100000 in
theorem mj_s_getfield (k : Nat) (C : mj_Ctx p l R s m args meth c E sc sx sv n cap d j own cc ret ini Rr Q) (hw : mj_len own cc ret ini pc (.getfield k) = some w) (kd0 : mj_kd (.getfield k) = true)
    (ih : ∀ ls st h cl rc rs, mj_b sc mj_tx mj_na Rr (mj_hd j) (mj_JZ p l e R s m args below meth c E n cap Q) Q is ft ls st h cl rc rs → mj_JZ p l e R s m args below meth c E n cap Q (pc + w) ls st h cl rc rs)
    (H : mj_b sc mj_tx mj_na Rr (mj_hd j) (mj_JZ p l e R s m args below meth c E n cap Q) Q ((pc, .getfield k) :: is) ft ls st h cl rc rs) : mj_JZ p l e R s m args below meth c E n cap Q pc ls st h cl rc rs := by
  obtain ⟨hx, hb, hml, hown, hts, hK, hlocks, hret, hini, ⟨htab, hdx, hk, hthr⟩, hst, hRf, hRl, hn45, hcap, hR, hzb⟩ := C
  have had : ∀ k c, h[k]? = some c → h.length + rc ≤ cap → E.2.1 k = E.1 + k := fun k c hk hc => hK.2.2.2.2.2.2.2.2.2 k (by have := (List.getElem?_eq_some_iff.mp hk).1; omega)
  have hKK := hK.1.1
  intro H0 locs cells slots ls' st' hat
  obtain ⟨hI, hS, hc, hs, hcp, hL, hSt⟩ := hat
  obtain ⟨a, t, fs, v, rfl, h1, h2, h3⟩ := H
  obtain ⟨t', e0, hSt9⟩ := mj_St_r hSt
  clear hSt
  subst e0
  have hSt := hSt9
  clear hSt9
  rw [had _ _ h1 hcp]
  obtain ⟨r, hr, hdc, rfl⟩ := mj_len_dc (fun _ h => by cases h) hw
  obtain ⟨g, hr⟩ := mj_if hr
  obtain ⟨ix, g2, rfl⟩ := List.mem_map.mp hr
  have hp : mj_pl v = true := mj_get_pl hI h1 h2
  exact va_get hx hb hts (mj_uws g.2) hown hKK hI.1 a (mj_ws_at h1) (mj_vw g.2) (k % 64) g.1 (hts _ (mj_G_of (mj_lkF_ok _ (mj_ix_mem g2)) rfl)) (fun _ q => q) (v := mj_rl E.2.1 v) (by rw [List.getElem?_map, h2]; rfl) hdc (ih _ _ _ _ _ _ h3 _ _ _ _ _ _ ⟨hI, hS, hc, hs, hcp, hL, mj_St_1 (mj_V_of hp) hSt⟩)
set_option maxHeartbeats 400000 in
set_option maxRecDepth 100000 in
theorem mj_s_putfield (k : Nat) (C : mj_Ctx p l R s m args meth c E sc sx sv n cap d j own cc ret ini Rr Q) (hw : mj_len own cc ret ini pc (.putfield k) = some w) (kd0 : mj_kd (.putfield k) = true)
    (ih : ∀ ls st h cl rc rs, mj_b sc mj_tx mj_na Rr (mj_hd j) (mj_JZ p l e R s m args below meth c E n cap Q) Q is ft ls st h cl rc rs → mj_JZ p l e R s m args below meth c E n cap Q (pc + w) ls st h cl rc rs)
    (H : mj_b sc mj_tx mj_na Rr (mj_hd j) (mj_JZ p l e R s m args below meth c E n cap Q) Q ((pc, .putfield k) :: is) ft ls st h cl rc rs) : mj_JZ p l e R s m args below meth c E n cap Q pc ls st h cl rc rs := by
  obtain ⟨hx, hb, hml, hown, hts, hK, hlocks, hret, hini, ⟨htab, hdx, hk, hthr⟩, hst, hRf, hRl, hn45, hcap, hR, hzb⟩ := C
  have had : ∀ k c, h[k]? = some c → h.length + rc ≤ cap → E.2.1 k = E.1 + k := fun k c hk hc => hK.2.2.2.2.2.2.2.2.2 k (by have := (List.getElem?_eq_some_iff.mp hk).1; omega)
  have hKK := hK.1.1
  intro H0 locs cells slots ls' st' hat
  obtain ⟨hI, hS, hc, hs, hcp, hL, hSt⟩ := hat
  obtain ⟨v, a, t, fs, rfl, h1, h2, h3, h4, h5, h6⟩ := H
  obtain ⟨t', e0, hSt9⟩ := mj_St_p h5 hSt
  clear hSt
  subst e0
  have hSt := hSt9
  clear hSt9
  obtain ⟨t', e0, hSt9⟩ := mj_St_r hSt
  clear hSt
  subst e0
  have hSt := hSt9
  clear hSt9
  rw [had _ _ h1 hcp]
  obtain ⟨r, hr, hdc, rfl⟩ := mj_len_dc (fun _ h => by cases h) hw
  obtain ⟨g, hr⟩ := mj_if hr
  obtain ⟨ix, g2, rfl⟩ := List.mem_map.mp hr
  exact mj_put hx hb g.2.1 g.1 hts hown hKK hI.1 hS h1 h2 (hts _ (mj_G_of (mj_lkF_ok _ (mj_ix_mem g2)) rfl)) (g.2.2.imp id (fun q => ⟨hini q.1, q.2⟩)) h3 h4 hdc (fun H1 locs1 z1 z2 z3 => ih _ _ _ _ _ _ h6 _ _ _ _ _ _ ⟨mj_I_set hI z1 (mj_put_cp hI h1 h5) z2, z3, hc, hs, by rw [List.length_set]; exact hcp, hL, hSt⟩)
set_option maxHeartbeats 400000 in
set_option maxRecDepth 100000 in
theorem mj_s_iaload (C : mj_Ctx p l R s m args meth c E sc sx sv n cap d j own cc ret ini Rr Q) (hw : mj_len own cc ret ini pc (.iaload) = some w) (kd0 : mj_kd (.iaload) = true)
    (ih : ∀ ls st h cl rc rs, mj_b sc mj_tx mj_na Rr (mj_hd j) (mj_JZ p l e R s m args below meth c E n cap Q) Q is ft ls st h cl rc rs → mj_JZ p l e R s m args below meth c E n cap Q (pc + w) ls st h cl rc rs)
    (H : mj_b sc mj_tx mj_na Rr (mj_hd j) (mj_JZ p l e R s m args below meth c E n cap Q) Q ((pc, .iaload) :: is) ft ls st h cl rc rs) : mj_JZ p l e R s m args below meth c E n cap Q pc ls st h cl rc rs := by
  obtain ⟨hx, hb, hml, hown, hts, hK, hlocks, hret, hini, ⟨htab, hdx, hk, hthr⟩, hst, hRf, hRl, hn45, hcap, hR, hzb⟩ := C
  have had : ∀ k c, h[k]? = some c → h.length + rc ≤ cap → E.2.1 k = E.1 + k := fun k c hk hc => hK.2.2.2.2.2.2.2.2.2 k (by have := (List.getElem?_eq_some_iff.mp hk).1; omega)
  have hKK := hK.1.1
  intro H0 locs cells slots ls' st' hat
  obtain ⟨hI, hS, hc, hs, hcp, hL, hSt⟩ := hat
  obtain ⟨x, a, t, n1, f, rfl, h1, h2, h3⟩ := H
  obtain ⟨t', e0, hSt9⟩ := mj_St_i hSt
  clear hSt
  subst e0
  have hSt := hSt9
  clear hSt9
  obtain ⟨t', e0, hSt9⟩ := mj_St_r hSt
  clear hSt
  subst e0
  have hSt := hSt9
  clear hSt9
  obtain ⟨r, hr, hdc, rfl⟩ := mj_len_dc (fun _ h => by cases h) hw
  cases List.mem_singleton.mp hr
  rcases h1 with h1 | ⟨rfl, rfl, rfl⟩
  · rw [had _ _ h1 hcp]
    exact va_iald hx hb hKK hI.1 a 0 (mj_ws_at h1) rfl h2 hdc (ih _ _ _ _ _ _ h3 _ _ _ _ _ _ ⟨hI, hS, hc, hs, hcp, hL, mj_St_1 (mj_V_of rfl) hSt⟩)
  · obtain ⟨hX, hbl⟩ := hK.2.2.2.2.2.2.2.1
    exact va_sld hx hb hX (Nat.lt_of_lt_of_le hbl hK.2.2.2.2.2.2.2.2.1) (Nat.not_le.mpr hbl) hS h2 hdc (ih _ _ _ _ _ _ h3 _ _ _ _ _ _ ⟨hI, hS, hc, hs, hcp, hL, mj_St_1 (mj_V_of rfl) hSt⟩)
set_option maxHeartbeats 400000 in
set_option maxRecDepth 100000 in
theorem mj_s_iastore (C : mj_Ctx p l R s m args meth c E sc sx sv n cap d j own cc ret ini Rr Q) (hw : mj_len own cc ret ini pc (.iastore) = some w) (kd0 : mj_kd (.iastore) = true)
    (ih : ∀ ls st h cl rc rs, mj_b sc mj_tx mj_na Rr (mj_hd j) (mj_JZ p l e R s m args below meth c E n cap Q) Q is ft ls st h cl rc rs → mj_JZ p l e R s m args below meth c E n cap Q (pc + w) ls st h cl rc rs)
    (H : mj_b sc mj_tx mj_na Rr (mj_hd j) (mj_JZ p l e R s m args below meth c E n cap Q) Q ((pc, .iastore) :: is) ft ls st h cl rc rs) : mj_JZ p l e R s m args below meth c E n cap Q pc ls st h cl rc rs := by
  obtain ⟨hx, hb, hml, hown, hts, hK, hlocks, hret, hini, ⟨htab, hdx, hk, hthr⟩, hst, hRf, hRl, hn45, hcap, hR, hzb⟩ := C
  have had : ∀ k c, h[k]? = some c → h.length + rc ≤ cap → E.2.1 k = E.1 + k := fun k c hk hc => hK.2.2.2.2.2.2.2.2.2 k (by have := (List.getElem?_eq_some_iff.mp hk).1; omega)
  have hKK := hK.1.1
  intro H0 locs cells slots ls' st' hat
  obtain ⟨hI, hS, hc, hs, hcp, hL, hSt⟩ := hat
  obtain ⟨v, x, a, t, n1, f, rfl, h1, h2, h3⟩ := H
  obtain ⟨t', e0, hSt9⟩ := mj_St_i hSt
  clear hSt
  subst e0
  have hSt := hSt9
  clear hSt9
  obtain ⟨t', e0, hSt9⟩ := mj_St_i hSt
  clear hSt
  subst e0
  have hSt := hSt9
  clear hSt9
  obtain ⟨t', e0, hSt9⟩ := mj_St_r hSt
  clear hSt
  subst e0
  have hSt := hSt9
  clear hSt9
  rw [had _ _ h1 hcp]
  obtain ⟨r, hr, hdc, rfl⟩ := mj_len_dc (fun _ h => by cases h) hw
  cases List.mem_singleton.mp hr
  exact mj_iast hx hb hKK hI.1 hS h1 h2 hdc (fun H1 locs1 z1 z2 z3 => ih _ _ _ _ _ _ h3 _ _ _ _ _ _ ⟨mj_I_set hI z1 rfl z2, z3, hc, hs, by rw [List.length_set]; exact hcp, hL, hSt⟩)
set_option maxHeartbeats 400000 in
set_option maxRecDepth 100000 in
theorem mj_s_baload (C : mj_Ctx p l R s m args meth c E sc sx sv n cap d j own cc ret ini Rr Q) (hw : mj_len own cc ret ini pc (.baload) = some w) (kd0 : mj_kd (.baload) = true)
    (ih : ∀ ls st h cl rc rs, mj_b sc mj_tx mj_na Rr (mj_hd j) (mj_JZ p l e R s m args below meth c E n cap Q) Q is ft ls st h cl rc rs → mj_JZ p l e R s m args below meth c E n cap Q (pc + w) ls st h cl rc rs)
    (H : mj_b sc mj_tx mj_na Rr (mj_hd j) (mj_JZ p l e R s m args below meth c E n cap Q) Q ((pc, .baload) :: is) ft ls st h cl rc rs) : mj_JZ p l e R s m args below meth c E n cap Q pc ls st h cl rc rs := by
  obtain ⟨hx, hb, hml, hown, hts, hK, hlocks, hret, hini, ⟨htab, hdx, hk, hthr⟩, hst, hRf, hRl, hn45, hcap, hR, hzb⟩ := C
  have had : ∀ k c, h[k]? = some c → h.length + rc ≤ cap → E.2.1 k = E.1 + k := fun k c hk hc => hK.2.2.2.2.2.2.2.2.2 k (by have := (List.getElem?_eq_some_iff.mp hk).1; omega)
  have hKK := hK.1.1
  intro H0 locs cells slots ls' st' hat
  obtain ⟨hI, hS, hc, hs, hcp, hL, hSt⟩ := hat
  obtain ⟨x, a, t, n1, f, rfl, h1, h2, h3⟩ := H
  obtain ⟨t', e0, hSt9⟩ := mj_St_i hSt
  clear hSt
  subst e0
  have hSt := hSt9
  clear hSt9
  obtain ⟨t', e0, hSt9⟩ := mj_St_r hSt
  clear hSt
  subst e0
  have hSt := hSt9
  clear hSt9
  obtain ⟨r, hr, hdc, rfl⟩ := mj_len_dc (fun _ h => by cases h) hw
  cases List.mem_singleton.mp hr
  rw [had _ _ h1 hcp]
  exact va_zald hx hb hKK hI.1 a 1 (mj_ws_at h1) rfl h2 hdc (ih _ _ _ _ _ _ h3 _ _ _ _ _ _ ⟨hI, hS, hc, hs, hcp, hL, mj_St_1 (mj_V_of rfl) hSt⟩)
set_option maxHeartbeats 400000 in
set_option maxRecDepth 100000 in
theorem mj_s_bastore (C : mj_Ctx p l R s m args meth c E sc sx sv n cap d j own cc ret ini Rr Q) (hw : mj_len own cc ret ini pc (.bastore) = some w) (kd0 : mj_kd (.bastore) = true)
    (ih : ∀ ls st h cl rc rs, mj_b sc mj_tx mj_na Rr (mj_hd j) (mj_JZ p l e R s m args below meth c E n cap Q) Q is ft ls st h cl rc rs → mj_JZ p l e R s m args below meth c E n cap Q (pc + w) ls st h cl rc rs)
    (H : mj_b sc mj_tx mj_na Rr (mj_hd j) (mj_JZ p l e R s m args below meth c E n cap Q) Q ((pc, .bastore) :: is) ft ls st h cl rc rs) : mj_JZ p l e R s m args below meth c E n cap Q pc ls st h cl rc rs := by
  obtain ⟨hx, hb, hml, hown, hts, hK, hlocks, hret, hini, ⟨htab, hdx, hk, hthr⟩, hst, hRf, hRl, hn45, hcap, hR, hzb⟩ := C
  have had : ∀ k c, h[k]? = some c → h.length + rc ≤ cap → E.2.1 k = E.1 + k := fun k c hk hc => hK.2.2.2.2.2.2.2.2.2 k (by have := (List.getElem?_eq_some_iff.mp hk).1; omega)
  have hKK := hK.1.1
  intro H0 locs cells slots ls' st' hat
  obtain ⟨hI, hS, hc, hs, hcp, hL, hSt⟩ := hat
  obtain ⟨v, x, a, t, n1, f, rfl, h1, h2, h3⟩ := H
  obtain ⟨t', e0, hSt9⟩ := mj_St_i hSt
  clear hSt
  subst e0
  have hSt := hSt9
  clear hSt9
  obtain ⟨t', e0, hSt9⟩ := mj_St_i hSt
  clear hSt
  subst e0
  have hSt := hSt9
  clear hSt9
  obtain ⟨t', e0, hSt9⟩ := mj_St_r hSt
  clear hSt
  subst e0
  have hSt := hSt9
  clear hSt9
  rw [had _ _ h1 hcp]
  obtain ⟨r, hr, hdc, rfl⟩ := mj_len_dc (fun _ h => by cases h) hw
  cases List.mem_singleton.mp hr
  exact mj_zast hx hb hKK hI.1 hS h1 h2 hdc (fun H1 locs1 z1 z2 z3 => ih _ _ _ _ _ _ h3 _ _ _ _ _ _ ⟨mj_I_set hI z1 rfl z2, z3, hc, hs, by rw [List.length_set]; exact hcp, hL, hSt⟩)
set_option maxHeartbeats 400000 in
set_option maxRecDepth 100000 in
theorem mj_s_laload (C : mj_Ctx p l R s m args meth c E sc sx sv n cap d j own cc ret ini Rr Q) (hw : mj_len own cc ret ini pc (.laload) = some w) (kd0 : mj_kd (.laload) = true)
    (ih : ∀ ls st h cl rc rs, mj_b sc mj_tx mj_na Rr (mj_hd j) (mj_JZ p l e R s m args below meth c E n cap Q) Q is ft ls st h cl rc rs → mj_JZ p l e R s m args below meth c E n cap Q (pc + w) ls st h cl rc rs)
    (H : mj_b sc mj_tx mj_na Rr (mj_hd j) (mj_JZ p l e R s m args below meth c E n cap Q) Q ((pc, .laload) :: is) ft ls st h cl rc rs) : mj_JZ p l e R s m args below meth c E n cap Q pc ls st h cl rc rs := by
  obtain ⟨hx, hb, hml, hown, hts, hK, hlocks, hret, hini, ⟨htab, hdx, hk, hthr⟩, hst, hRf, hRl, hn45, hcap, hR, hzb⟩ := C
  have had : ∀ k c, h[k]? = some c → h.length + rc ≤ cap → E.2.1 k = E.1 + k := fun k c hk hc => hK.2.2.2.2.2.2.2.2.2 k (by have := (List.getElem?_eq_some_iff.mp hk).1; omega)
  have hKK := hK.1.1
  intro H0 locs cells slots ls' st' hat
  obtain ⟨hI, hS, hc, hs, hcp, hL, hSt⟩ := hat
  obtain ⟨x, a, t, n1, f, rfl, h1, h2, h3⟩ := H
  obtain ⟨t', e0, hSt9⟩ := mj_St_i hSt
  clear hSt
  subst e0
  have hSt := hSt9
  clear hSt9
  obtain ⟨t', e0, hSt9⟩ := mj_St_r hSt
  clear hSt
  subst e0
  have hSt := hSt9
  clear hSt9
  obtain ⟨r, hr, hdc, rfl⟩ := mj_len_dc (fun _ h => by cases h) hw
  cases List.mem_singleton.mp hr
  rw [had _ _ h1 hcp]
  exact va_lald hx hb hKK hI.1 a 2 (mj_ws_at h1) rfl h2 hdc (ih _ _ _ _ _ _ h3 _ _ _ _ _ _ ⟨hI, hS, hc, hs, hcp, hL, mj_St_1 (mj_V_of rfl) hSt⟩)
set_option maxHeartbeats 400000 in
set_option maxRecDepth 100000 in
theorem mj_s_lastore (C : mj_Ctx p l R s m args meth c E sc sx sv n cap d j own cc ret ini Rr Q) (hw : mj_len own cc ret ini pc (.lastore) = some w) (kd0 : mj_kd (.lastore) = true)
    (ih : ∀ ls st h cl rc rs, mj_b sc mj_tx mj_na Rr (mj_hd j) (mj_JZ p l e R s m args below meth c E n cap Q) Q is ft ls st h cl rc rs → mj_JZ p l e R s m args below meth c E n cap Q (pc + w) ls st h cl rc rs)
    (H : mj_b sc mj_tx mj_na Rr (mj_hd j) (mj_JZ p l e R s m args below meth c E n cap Q) Q ((pc, .lastore) :: is) ft ls st h cl rc rs) : mj_JZ p l e R s m args below meth c E n cap Q pc ls st h cl rc rs := by
  obtain ⟨hx, hb, hml, hown, hts, hK, hlocks, hret, hini, ⟨htab, hdx, hk, hthr⟩, hst, hRf, hRl, hn45, hcap, hR, hzb⟩ := C
  have had : ∀ k c, h[k]? = some c → h.length + rc ≤ cap → E.2.1 k = E.1 + k := fun k c hk hc => hK.2.2.2.2.2.2.2.2.2 k (by have := (List.getElem?_eq_some_iff.mp hk).1; omega)
  have hKK := hK.1.1
  intro H0 locs cells slots ls' st' hat
  obtain ⟨hI, hS, hc, hs, hcp, hL, hSt⟩ := hat
  obtain ⟨v, x, a, t, n1, f, rfl, h1, h2, h3⟩ := H
  obtain ⟨t', e0, hSt9⟩ := mj_St_l hSt
  clear hSt
  subst e0
  have hSt := hSt9
  clear hSt9
  obtain ⟨t', e0, hSt9⟩ := mj_St_i hSt
  clear hSt
  subst e0
  have hSt := hSt9
  clear hSt9
  obtain ⟨t', e0, hSt9⟩ := mj_St_r hSt
  clear hSt
  subst e0
  have hSt := hSt9
  clear hSt9
  rw [had _ _ h1 hcp]
  obtain ⟨r, hr, hdc, rfl⟩ := mj_len_dc (fun _ h => by cases h) hw
  cases List.mem_singleton.mp hr
  exact mj_last hx hb hKK hI.1 hS h1 h2 hdc (fun H1 locs1 z1 z2 z3 => ih _ _ _ _ _ _ h3 _ _ _ _ _ _ ⟨mj_I_set hI z1 rfl z2, z3, hc, hs, by rw [List.length_set]; exact hcp, hL, hSt⟩)
set_option maxHeartbeats 400000 in
set_option maxRecDepth 100000 in
theorem mj_s_aaload (C : mj_Ctx p l R s m args meth c E sc sx sv n cap d j own cc ret ini Rr Q) (hw : mj_len own cc ret ini pc (.aaload) = some w) (kd0 : mj_kd (.aaload) = true)
    (ih : ∀ ls st h cl rc rs, mj_b sc mj_tx mj_na Rr (mj_hd j) (mj_JZ p l e R s m args below meth c E n cap Q) Q is ft ls st h cl rc rs → mj_JZ p l e R s m args below meth c E n cap Q (pc + w) ls st h cl rc rs)
    (H : mj_b sc mj_tx mj_na Rr (mj_hd j) (mj_JZ p l e R s m args below meth c E n cap Q) Q ((pc, .aaload) :: is) ft ls st h cl rc rs) : mj_JZ p l e R s m args below meth c E n cap Q pc ls st h cl rc rs := by
  obtain ⟨hx, hb, hml, hown, hts, hK, hlocks, hret, hini, ⟨htab, hdx, hk, hthr⟩, hst, hRf, hRl, hn45, hcap, hR, hzb⟩ := C
  have had : ∀ k c, h[k]? = some c → h.length + rc ≤ cap → E.2.1 k = E.1 + k := fun k c hk hc => hK.2.2.2.2.2.2.2.2.2 k (by have := (List.getElem?_eq_some_iff.mp hk).1; omega)
  have hKK := hK.1.1
  intro H0 locs cells slots ls' st' hat
  obtain ⟨hI, hS, hc, hs, hcp, hL, hSt⟩ := hat
  obtain ⟨x, a, t, n1, f, k, rfl, h1, h2, hk1, h3⟩ := H
  obtain ⟨t', e0, hSt9⟩ := mj_St_i hSt
  clear hSt
  subst e0
  have hSt := hSt9
  clear hSt9
  obtain ⟨t', e0, hSt9⟩ := mj_St_r hSt
  clear hSt
  subst e0
  have hSt := hSt9
  clear hSt9
  obtain ⟨r, hr, hdc, rfl⟩ := mj_len_dc (fun _ h => by cases h) hw
  cases List.mem_singleton.mp hr
  rw [had _ _ h1 hcp]
  exact va_aldq (C := "OsierHolt$Holt") hx hb hKK hI.1 a 3 (mj_ws_at h1) rfl h2 hdc (by
    show W p l e R s m args below meth c H0 locs cells slots _ (F0 m (pc + 1) ls' (va_rf ((f x.toNatClampNeg).map E.2.1) :: t'))
    rw [hk1]
    exact ih _ _ _ _ _ _ h3 _ _ _ _ _ _ ⟨hI, hS, hc, hs, hcp, hL, mj_St_1 (mj_V_of rfl) hSt⟩)
set_option maxHeartbeats 400000 in
set_option maxRecDepth 100000 in
theorem mj_s_aastore (C : mj_Ctx p l R s m args meth c E sc sx sv n cap d j own cc ret ini Rr Q) (hw : mj_len own cc ret ini pc (.aastore) = some w) (kd0 : mj_kd (.aastore) = true)
    (ih : ∀ ls st h cl rc rs, mj_b sc mj_tx mj_na Rr (mj_hd j) (mj_JZ p l e R s m args below meth c E n cap Q) Q is ft ls st h cl rc rs → mj_JZ p l e R s m args below meth c E n cap Q (pc + w) ls st h cl rc rs)
    (H : mj_b sc mj_tx mj_na Rr (mj_hd j) (mj_JZ p l e R s m args below meth c E n cap Q) Q ((pc, .aastore) :: is) ft ls st h cl rc rs) : mj_JZ p l e R s m args below meth c E n cap Q pc ls st h cl rc rs := by
  obtain ⟨hx, hb, hml, hown, hts, hK, hlocks, hret, hini, ⟨htab, hdx, hk, hthr⟩, hst, hRf, hRl, hn45, hcap, hR, hzb⟩ := C
  have had : ∀ k c, h[k]? = some c → h.length + rc ≤ cap → E.2.1 k = E.1 + k := fun k c hk hc => hK.2.2.2.2.2.2.2.2.2 k (by have := (List.getElem?_eq_some_iff.mp hk).1; omega)
  have hKK := hK.1.1
  intro H0 locs cells slots ls' st' hat
  obtain ⟨hI, hS, hc, hs, hcp, hL, hSt⟩ := hat
  obtain ⟨k, x, a, t, n1, f, vs, rfl, h1, h2, hk1, h3⟩ := H
  obtain ⟨t', e0, hSt9⟩ := mj_St_r hSt
  clear hSt
  subst e0
  have hSt := hSt9
  clear hSt9
  obtain ⟨t', e0, hSt9⟩ := mj_St_i hSt
  clear hSt
  subst e0
  have hSt := hSt9
  clear hSt9
  obtain ⟨t', e0, hSt9⟩ := mj_St_r hSt
  clear hSt
  subst e0
  have hSt := hSt9
  clear hSt9
  rw [had _ _ h1 hcp, had _ _ hk1 hcp]
  obtain ⟨r, hr, hdc, rfl⟩ := mj_len_dc (fun _ h => by cases h) hw
  cases List.mem_singleton.mp hr
  exact mj_aast hx hb hKK hI.1 hS h1 hk1 (had _ _ hk1 hcp) h2 hdc (fun H1 locs1 z1 z2 z3 => ih _ _ _ _ _ _ h3 _ _ _ _ _ _ ⟨mj_I_set hI z1 rfl z2, z3, hc, hs, by rw [List.length_set]; exact hcp, hL, hSt⟩)
set_option maxHeartbeats 400000 in
set_option maxRecDepth 100000 in
theorem mj_s_arraylength (C : mj_Ctx p l R s m args meth c E sc sx sv n cap d j own cc ret ini Rr Q) (hw : mj_len own cc ret ini pc (.arraylength) = some w) (kd0 : mj_kd (.arraylength) = true)
    (ih : ∀ ls st h cl rc rs, mj_b sc mj_tx mj_na Rr (mj_hd j) (mj_JZ p l e R s m args below meth c E n cap Q) Q is ft ls st h cl rc rs → mj_JZ p l e R s m args below meth c E n cap Q (pc + w) ls st h cl rc rs)
    (H : mj_b sc mj_tx mj_na Rr (mj_hd j) (mj_JZ p l e R s m args below meth c E n cap Q) Q ((pc, .arraylength) :: is) ft ls st h cl rc rs) : mj_JZ p l e R s m args below meth c E n cap Q pc ls st h cl rc rs := by
  obtain ⟨hx, hb, hml, hown, hts, hK, hlocks, hret, hini, ⟨htab, hdx, hk, hthr⟩, hst, hRf, hRl, hn45, hcap, hR, hzb⟩ := C
  have had : ∀ k c, h[k]? = some c → h.length + rc ≤ cap → E.2.1 k = E.1 + k := fun k c hk hc => hK.2.2.2.2.2.2.2.2.2 k (by have := (List.getElem?_eq_some_iff.mp hk).1; omega)
  have hKK := hK.1.1
  intro H0 locs cells slots ls' st' hat
  obtain ⟨hI, hS, hc, hs, hcp, hL, hSt⟩ := hat
  obtain ⟨a, t, n1, f, rfl, h1, h3⟩ := H
  obtain ⟨t', e0, hSt9⟩ := mj_St_r hSt
  clear hSt
  subst e0
  have hSt := hSt9
  clear hSt9
  obtain ⟨r, hr, hdc, rfl⟩ := mj_len_dc (fun _ h => by cases h) hw
  cases List.mem_singleton.mp hr
  rcases h1 with h1 | ⟨rfl, rfl, rfl⟩
  · rw [had _ _ h1 hcp]
    exact va_alen hx hb hKK hI.1 a 0 (mj_ws_at h1) rfl rfl hdc (ih _ _ _ _ _ _ h3 _ _ _ _ _ _ ⟨hI, hS, hc, hs, hcp, hL, mj_St_1 (mj_V_of rfl) hSt⟩)
  · obtain ⟨hX, hbl⟩ := hK.2.2.2.2.2.2.2.1
    exact va_slen hx hb hX (Nat.lt_of_lt_of_le hbl hK.2.2.2.2.2.2.2.2.1) (Nat.not_le.mpr hbl) hS hdc (ih _ _ _ _ _ _ h3 _ _ _ _ _ _ ⟨hI, hS, hc, hs, hcp, hL, mj_St_1 (mj_V_of rfl) hSt⟩)
set_option maxHeartbeats 400000 in
set_option maxRecDepth 100000 in
theorem mj_s_new (ci : Nat) (C : mj_Ctx p l R s m args meth c E sc sx sv n cap d j own cc ret ini Rr Q) (hw : mj_len own cc ret ini pc (.new ci) = some w) (kd0 : mj_kd (.new ci) = true)
    (ih : ∀ ls st h cl rc rs, mj_b sc mj_tx mj_na Rr (mj_hd j) (mj_JZ p l e R s m args below meth c E n cap Q) Q is ft ls st h cl rc rs → mj_JZ p l e R s m args below meth c E n cap Q (pc + w) ls st h cl rc rs)
    (H : mj_b sc mj_tx mj_na Rr (mj_hd j) (mj_JZ p l e R s m args below meth c E n cap Q) Q ((pc, .new ci) :: is) ft ls st h cl rc rs) : mj_JZ p l e R s m args below meth c E n cap Q pc ls st h cl rc rs := by
  obtain ⟨hx, hb, hml, hown, hts, hK, hlocks, hret, hini, ⟨htab, hdx, hk, hthr⟩, hst, hRf, hRl, hn45, hcap, hR, hzb⟩ := C
  have had : ∀ k c, h[k]? = some c → h.length + rc ≤ cap → E.2.1 k = E.1 + k := fun k c hk hc => hK.2.2.2.2.2.2.2.2.2 k (by have := (List.getElem?_eq_some_iff.mp hk).1; omega)
  have hKK := hK.1.1
  intro H0 locs cells slots ls' st' hat
  obtain ⟨hI, hS, hc, hs, hcp, hL, hSt⟩ := hat
  obtain ⟨rfl, h1, h2, h3⟩ := H
  have hln : h.length < mj_SC := by omega
  have had2 : E.2.1 h.length = E.1 + h.length := hK.2.2.2.2.2.2.2.2.2 _ hln
  obtain ⟨r, hr, hdc, rfl⟩ := mj_len_dc (fun _ h => by cases h) hw
  obtain ⟨g, hr⟩ := mj_if hr
  obtain ⟨ix, g2, rfl⟩ := List.mem_map.mp hr
  exact mj_newo hx hb g hts hown (hts _ (mj_G_of (mj_lkA_ok _ (mj_ix_mem g2)) rfl)) (hts _ (mj_inst_in ci g).1) (hts _ (mj_inst_in ci g).2) hKK hI.1 hS (hI.2.2.1 rfl) (by omega) (by omega) hdc (fun H1 z1 z2 z3 => ih _ _ _ _ _ _ h3 _ _ _ _ _ _ ⟨mj_I_new hI z1 (mj_new_cp ci) z2, z3, by omega, by omega, by rw [List.length_append]; simp; omega, hL, mj_St_1 (Or.inr ⟨rfl, by rw [← had2]; rfl⟩) hSt⟩)
set_option maxHeartbeats 400000 in
set_option maxRecDepth 100000 in
theorem mj_s_newarray (t : ArrayType) (C : mj_Ctx p l R s m args meth c E sc sx sv n cap d j own cc ret ini Rr Q) (hw : mj_len own cc ret ini pc (.newarray t) = some w) (kd0 : mj_kd (.newarray t) = true)
    (ih : ∀ ls st h cl rc rs, mj_b sc mj_tx mj_na Rr (mj_hd j) (mj_JZ p l e R s m args below meth c E n cap Q) Q is ft ls st h cl rc rs → mj_JZ p l e R s m args below meth c E n cap Q (pc + w) ls st h cl rc rs)
    (H : mj_b sc mj_tx mj_na Rr (mj_hd j) (mj_JZ p l e R s m args below meth c E n cap Q) Q ((pc, .newarray t) :: is) ft ls st h cl rc rs) : mj_JZ p l e R s m args below meth c E n cap Q pc ls st h cl rc rs := by
  obtain ⟨hx, hb, hml, hown, hts, hK, hlocks, hret, hini, ⟨htab, hdx, hk, hthr⟩, hst, hRf, hRl, hn45, hcap, hR, hzb⟩ := C
  have had : ∀ k c, h[k]? = some c → h.length + rc ≤ cap → E.2.1 k = E.1 + k := fun k c hk hc => hK.2.2.2.2.2.2.2.2.2 k (by have := (List.getElem?_eq_some_iff.mp hk).1; omega)
  have hKK := hK.1.1
  intro H0 locs cells slots ls' st' hat
  obtain ⟨hI, hS, hc, hs, hcp, hL, hSt⟩ := hat
  obtain ⟨n1, t2, tg, ct, rfl, hn1, hty, rfl, h1, h2, h3⟩ := H
  obtain ⟨t', e0, hSt9⟩ := mj_St_i hSt
  clear hSt
  subst e0
  have hSt := hSt9
  clear hSt9
  have hln : h.length < mj_SC := by omega
  have had2 : E.2.1 h.length = E.1 + h.length := hK.2.2.2.2.2.2.2.2.2 _ hln
  obtain ⟨r, hr, hdc, rfl⟩ := mj_len_dc (fun _ h => by cases h) hw
  cases List.mem_singleton.mp hr
  rcases hty with ⟨rfl, rfl, rfl⟩ | ⟨rfl, rfl, rfl⟩ | ⟨rfl, rfl, rfl⟩
  · exact mj_newa (atype := .int) (t := 0) (ty := .int) hx hb (hts _ (mj_arr_in .int (by simp))) rfl rfl (fun _ q => by cases q) hKK hI.1 hS (hI.2.2.1 rfl) (fun cA => rfl) hn1 (by decide) (by omega) (by omega) hdc (fun H1 z1 z2 z3 => ih _ _ _ _ _ _ h3 _ _ _ _ _ _ ⟨mj_I_new hI z1 rfl z2, z3, by omega, by omega, by rw [List.length_append]; simp; omega, hL, mj_St_1 (Or.inr ⟨rfl, by rw [← had2]; rfl⟩) hSt⟩)
  · exact mj_newa (atype := .boolean) (t := 1) (ty := .boolean) hx hb (hts _ (mj_arr_in .boolean (by simp))) rfl rfl (fun _ q => by cases q) hKK hI.1 hS (hI.2.2.1 rfl) (fun cA => rfl) hn1 (by decide) (by omega) (by omega) hdc (fun H1 z1 z2 z3 => ih _ _ _ _ _ _ h3 _ _ _ _ _ _ ⟨mj_I_new hI z1 rfl z2, z3, by omega, by omega, by rw [List.length_append]; simp; omega, hL, mj_St_1 (Or.inr ⟨rfl, by rw [← had2]; rfl⟩) hSt⟩)
  · exact mj_newa (atype := .long) (t := 2) (ty := .long) hx hb (hts _ (mj_arr_in .long (by simp))) rfl rfl (fun _ q => by cases q) hKK hI.1 hS (hI.2.2.1 rfl) (fun cA => rfl) hn1 (by decide) (by omega) (by omega) hdc (fun H1 z1 z2 z3 => ih _ _ _ _ _ _ h3 _ _ _ _ _ _ ⟨mj_I_new hI z1 rfl z2, z3, by omega, by omega, by rw [List.length_append]; simp; omega, hL, mj_St_1 (Or.inr ⟨rfl, by rw [← had2]; rfl⟩) hSt⟩)
set_option maxHeartbeats 400000 in
set_option maxRecDepth 100000 in
theorem mj_s_anewarray (k : Nat) (C : mj_Ctx p l R s m args meth c E sc sx sv n cap d j own cc ret ini Rr Q) (hw : mj_len own cc ret ini pc (.anewarray k) = some w) (kd0 : mj_kd (.anewarray k) = true)
    (ih : ∀ ls st h cl rc rs, mj_b sc mj_tx mj_na Rr (mj_hd j) (mj_JZ p l e R s m args below meth c E n cap Q) Q is ft ls st h cl rc rs → mj_JZ p l e R s m args below meth c E n cap Q (pc + w) ls st h cl rc rs)
    (H : mj_b sc mj_tx mj_na Rr (mj_hd j) (mj_JZ p l e R s m args below meth c E n cap Q) Q ((pc, .anewarray k) :: is) ft ls st h cl rc rs) : mj_JZ p l e R s m args below meth c E n cap Q pc ls st h cl rc rs := by
  obtain ⟨hx, hb, hml, hown, hts, hK, hlocks, hret, hini, ⟨htab, hdx, hk, hthr⟩, hst, hRf, hRl, hn45, hcap, hR, hzb⟩ := C
  have had : ∀ k c, h[k]? = some c → h.length + rc ≤ cap → E.2.1 k = E.1 + k := fun k c hk hc => hK.2.2.2.2.2.2.2.2.2 k (by have := (List.getElem?_eq_some_iff.mp hk).1; omega)
  have hKK := hK.1.1
  intro H0 locs cells slots ls' st' hat
  obtain ⟨hI, hS, hc, hs, hcp, hL, hSt⟩ := hat
  obtain ⟨n1, t2, rfl, hn1, rfl, h1, h2, h3⟩ := H
  obtain ⟨t', e0, hSt9⟩ := mj_St_i hSt
  clear hSt
  subst e0
  have hSt := hSt9
  clear hSt9
  have hln : h.length < mj_SC := by omega
  have had2 : E.2.1 h.length = E.1 + h.length := hK.2.2.2.2.2.2.2.2.2 _ hln
  obtain ⟨r, hr, hdc, rfl⟩ := mj_len_dc (fun _ h => by cases h) hw
  obtain ⟨g, hr⟩ := mj_if hr
  obtain ⟨ix, g2, rfl⟩ := List.mem_map.mp hr
  exact mj_newq hx hb hown (hts _ (mj_G_of (mj_lkA_ok _ (mj_ix_mem g2)) rfl)) hK.1.2 hKK hI.1 hS (hI.2.2.1 rfl) hn1 (by omega) (by omega) hdc (fun H1 z1 z2 z3 => ih _ _ _ _ _ _ h3 _ _ _ _ _ _ ⟨mj_I_new hI z1 rfl z2, z3, by omega, by omega, by rw [List.length_append]; simp; omega, hL, mj_St_1 (Or.inr ⟨rfl, by rw [← had2]; rfl⟩) hSt⟩)
set_option maxHeartbeats 400000 in
set_option maxRecDepth 100000 in
theorem mj_s_ireturn (C : mj_Ctx p l R s m args meth c E sc sx sv n cap d j own cc ret ini Rr Q) (hw : mj_len own cc ret ini pc (.ireturn) = some w) (kd0 : mj_kd (.ireturn) = true)
    (ih : ∀ ls st h cl rc rs, mj_b sc mj_tx mj_na Rr (mj_hd j) (mj_JZ p l e R s m args below meth c E n cap Q) Q is ft ls st h cl rc rs → mj_JZ p l e R s m args below meth c E n cap Q (pc + w) ls st h cl rc rs)
    (H : mj_b sc mj_tx mj_na Rr (mj_hd j) (mj_JZ p l e R s m args below meth c E n cap Q) Q ((pc, .ireturn) :: is) ft ls st h cl rc rs) : mj_JZ p l e R s m args below meth c E n cap Q pc ls st h cl rc rs := by
  obtain ⟨hx, hb, hml, hown, hts, hK, hlocks, hret, hini, ⟨htab, hdx, hk, hthr⟩, hst, hRf, hRl, hn45, hcap, hR, hzb⟩ := C
  have had : ∀ k c, h[k]? = some c → h.length + rc ≤ cap → E.2.1 k = E.1 + k := fun k c hk hc => hK.2.2.2.2.2.2.2.2.2 k (by have := (List.getElem?_eq_some_iff.mp hk).1; omega)
  have hKK := hK.1.1
  intro H0 locs cells slots ls' st' hat
  obtain ⟨hI, hS, hc, hs, hcp, hL, hSt⟩ := hat
  obtain ⟨x, rfl, h1⟩ := H
  obtain ⟨t', e0, hSt9⟩ := mj_St_i hSt
  clear hSt
  subst e0
  have hSt := hSt9
  clear hSt9
  cases mj_St_nil hSt
  obtain ⟨r, hr, hdc, rfl⟩ := mj_len_dc (fun _ h => by cases h) hw
  obtain ⟨g, hr⟩ := mj_if hr
  cases List.mem_singleton.mp hr
  refine vx_ret (W.widen (k := R.cells) (n := R.slots) (by omega) (by omega) ?_)
  rcases g with g | g
  · exact W.iret hx hb (hret.trans g) (fun t ht hW => ⟨⟨_, h, cl, h1, rfl, by rw [ht]; exact hI, by omega, fun v hv => by cases hv <;> rfl⟩, hS.F ht⟩) hS.2.2 hdc
  · exact W.zret hx hb (hret.trans g) (hzb x h cl h1 g) (fun t ht hW => ⟨⟨_, h, cl, h1, rfl, by rw [ht]; exact hI, by omega, fun v hv => by cases hv <;> rfl⟩, hS.F ht⟩) hS.2.2 hdc
set_option maxHeartbeats 400000 in
set_option maxRecDepth 100000 in
theorem mj_s_lreturn (C : mj_Ctx p l R s m args meth c E sc sx sv n cap d j own cc ret ini Rr Q) (hw : mj_len own cc ret ini pc (.lreturn) = some w) (kd0 : mj_kd (.lreturn) = true)
    (ih : ∀ ls st h cl rc rs, mj_b sc mj_tx mj_na Rr (mj_hd j) (mj_JZ p l e R s m args below meth c E n cap Q) Q is ft ls st h cl rc rs → mj_JZ p l e R s m args below meth c E n cap Q (pc + w) ls st h cl rc rs)
    (H : mj_b sc mj_tx mj_na Rr (mj_hd j) (mj_JZ p l e R s m args below meth c E n cap Q) Q ((pc, .lreturn) :: is) ft ls st h cl rc rs) : mj_JZ p l e R s m args below meth c E n cap Q pc ls st h cl rc rs := by
  obtain ⟨hx, hb, hml, hown, hts, hK, hlocks, hret, hini, ⟨htab, hdx, hk, hthr⟩, hst, hRf, hRl, hn45, hcap, hR, hzb⟩ := C
  have had : ∀ k c, h[k]? = some c → h.length + rc ≤ cap → E.2.1 k = E.1 + k := fun k c hk hc => hK.2.2.2.2.2.2.2.2.2 k (by have := (List.getElem?_eq_some_iff.mp hk).1; omega)
  have hKK := hK.1.1
  intro H0 locs cells slots ls' st' hat
  obtain ⟨hI, hS, hc, hs, hcp, hL, hSt⟩ := hat
  obtain ⟨x, rfl, h1⟩ := H
  obtain ⟨t', e0, hSt9⟩ := mj_St_l hSt
  clear hSt
  subst e0
  have hSt := hSt9
  clear hSt9
  cases mj_St_nil hSt
  obtain ⟨r, hr, hdc, rfl⟩ := mj_len_dc (fun _ h => by cases h) hw
  obtain ⟨g, hr⟩ := mj_if hr
  cases List.mem_singleton.mp hr
  refine vx_ret (W.widen (k := R.cells) (n := R.slots) (by omega) (by omega) ?_)
  exact W.lret hx hb (hret.trans g) (fun t ht hW => ⟨⟨_, h, cl, h1, rfl, by rw [ht]; exact hI, by omega, fun v hv => by cases hv <;> rfl⟩, hS.F ht⟩) hS.2.2 hdc
set_option maxHeartbeats 400000 in
set_option maxRecDepth 100000 in
theorem mj_s_return_ (C : mj_Ctx p l R s m args meth c E sc sx sv n cap d j own cc ret ini Rr Q) (hw : mj_len own cc ret ini pc (.return_) = some w) (kd0 : mj_kd (.return_) = true)
    (ih : ∀ ls st h cl rc rs, mj_b sc mj_tx mj_na Rr (mj_hd j) (mj_JZ p l e R s m args below meth c E n cap Q) Q is ft ls st h cl rc rs → mj_JZ p l e R s m args below meth c E n cap Q (pc + w) ls st h cl rc rs)
    (H : mj_b sc mj_tx mj_na Rr (mj_hd j) (mj_JZ p l e R s m args below meth c E n cap Q) Q ((pc, .return_) :: is) ft ls st h cl rc rs) : mj_JZ p l e R s m args below meth c E n cap Q pc ls st h cl rc rs := by
  obtain ⟨hx, hb, hml, hown, hts, hK, hlocks, hret, hini, ⟨htab, hdx, hk, hthr⟩, hst, hRf, hRl, hn45, hcap, hR, hzb⟩ := C
  have had : ∀ k c, h[k]? = some c → h.length + rc ≤ cap → E.2.1 k = E.1 + k := fun k c hk hc => hK.2.2.2.2.2.2.2.2.2 k (by have := (List.getElem?_eq_some_iff.mp hk).1; omega)
  have hKK := hK.1.1
  intro H0 locs cells slots ls' st' hat
  obtain ⟨hI, hS, hc, hs, hcp, hL, hSt⟩ := hat
  obtain ⟨rfl, h1⟩ := H
  cases mj_St_nil hSt
  obtain ⟨r, hr, hdc, rfl⟩ := mj_len_dc (fun _ h => by cases h) hw
  obtain ⟨g, hr⟩ := mj_if hr
  cases List.mem_singleton.mp hr
  refine vx_ret (W.widen (k := R.cells) (n := R.slots) (by omega) (by omega) ?_)
  exact W.vret hx hb (hret.trans g) (fun t ht hW => ⟨⟨_, h, cl, h1, rfl, by rw [ht]; exact hI, by omega, fun v hv => by cases hv <;> rfl⟩, hS.F ht⟩) hS.2.2 hdc
set_option maxHeartbeats 400000 in
set_option maxRecDepth 100000 in
theorem mj_s_instanceof (x : Nat) (C : mj_Ctx p l R s m args meth c E sc sx sv n cap d j own cc ret ini Rr Q) (hw : mj_len own cc ret ini pc (.instanceof x) = some w) (kd0 : mj_kd (.instanceof x) = true)
    (ih : ∀ ls st h cl rc rs, mj_b sc mj_tx mj_na Rr (mj_hd j) (mj_JZ p l e R s m args below meth c E n cap Q) Q is ft ls st h cl rc rs → mj_JZ p l e R s m args below meth c E n cap Q (pc + w) ls st h cl rc rs)
    (H : mj_b sc mj_tx mj_na Rr (mj_hd j) (mj_JZ p l e R s m args below meth c E n cap Q) Q ((pc, .instanceof x) :: is) ft ls st h cl rc rs) : mj_JZ p l e R s m args below meth c E n cap Q pc ls st h cl rc rs := by
  obtain ⟨hx, hb, hml, hown, hts, hK, hlocks, hret, hini, ⟨htab, hdx, hk, hthr⟩, hst, hRf, hRl, hn45, hcap, hR, hzb⟩ := C
  have had : ∀ k c, h[k]? = some c → h.length + rc ≤ cap → E.2.1 k = E.1 + k := fun k c hk hc => hK.2.2.2.2.2.2.2.2.2 k (by have := (List.getElem?_eq_some_iff.mp hk).1; omega)
  have hKK := hK.1.1
  intro H0 locs cells slots ls' st' hat
  obtain ⟨hI, hS, hc, hs, hcp, hL, hSt⟩ := hat
  obtain ⟨h1, h2, h3, h4⟩ := H
  exact mj_throw hx hb hml hown hts hK hlocks htab hthr hst (by omega) (by omega) hw hI hS hL.1 (by rw [mj_St_cat hSt]; exact h1) (by omega) (by omega) (by omega) h4
set_option maxHeartbeats 400000 in
set_option maxRecDepth 100000 in
theorem mj_s_invokestatic (k : Nat) (C : mj_Ctx p l R s m args meth c E sc sx sv n cap d j own cc ret ini Rr Q) (hw : mj_len own cc ret ini pc (.invokestatic k) = some w) (kd0 : mj_kd (.invokestatic k) = true)
    (ih : ∀ ls st h cl rc rs, mj_b sc mj_tx mj_na Rr (mj_hd j) (mj_JZ p l e R s m args below meth c E n cap Q) Q is ft ls st h cl rc rs → mj_JZ p l e R s m args below meth c E n cap Q (pc + w) ls st h cl rc rs)
    (H : mj_b sc mj_tx mj_na Rr (mj_hd j) (mj_JZ p l e R s m args below meth c E n cap Q) Q ((pc, .invokestatic k) :: is) ft ls st h cl rc rs) : mj_JZ p l e R s m args below meth c E n cap Q pc ls st h cl rc rs := by
  obtain ⟨hx, hb, hml, hown, hts, hK, hlocks, hret, hini, ⟨htab, hdx, hk, hthr⟩, hst, hRf, hRl, hn45, hcap, hR, hzb⟩ := C
  have had : ∀ k c, h[k]? = some c → h.length + rc ≤ cap → E.2.1 k = E.1 + k := fun k c hk hc => hK.2.2.2.2.2.2.2.2.2 k (by have := (List.getElem?_eq_some_iff.mp hk).1; omega)
  have hKK := hK.1.1
  intro H0 locs cells slots ls' st' hat
  obtain ⟨hI, hS, hc, hs, hcp, hL, hSt⟩ := hat
  obtain ⟨as, rest, o, h', cl', dc, ds, rfl, hn1, hp1, hcat, hdc1, hds1, hRr, haf⟩ := H
  obtain ⟨z1, z2, e0, hSt1, hSt2⟩ := mj_St_app hSt
  clear hSt
  subst e0
  have hz1 : z1 = (as.map (mj_rl E.2.1)).reverse := by rw [mj_St_map (fun v hv => List.all_eq_true.mp hp1 v (List.mem_reverse.mp hv)) hSt1, List.map_reverse]
  subst hz1
  have hcat' : (z2.map fun v => v.category).sum ≤ 8 := by rw [mj_St_cat hSt2]; exact hcat
  obtain ⟨r, hr, hdc, rfl⟩ := mj_len_dc (fun _ h => by cases h) hw
  obtain ⟨g, hr⟩ := mj_if hr
  obtain ⟨ix, g2, rfl⟩ := List.mem_map.mp hr
  obtain ⟨e9, hm, hf, hf0⟩ := mj_kd_s kd0
  have hCon := hR _ _ _ _ _ _ _ _ _ ⟨e9, hm, hf0⟩ hRr (h.length + dc) (Nat.le_refl _) (by omega)
  have hlnk := hts _ (mj_G_of (mj_lk_ok _ (mj_ix_mem g2)) rfl)
  rw [mj_yn_of g hm] at hlnk hCon
  refine mj_call (E := E) (cap := h.length + dc) (mj_run_s hx hb hml hown hts hm hf hlnk hCon hI hS hK hn1 hL.1 hcat' hdc hRf hRl (by omega) (by omega)) hS (fun x h1 cl1 ce q9 H1 locs1 hq hx5 hI1 hc1 hS1 hce hcv hcl => ?_) (fun r h1 cl1 H1 locs1 hq hI1 hc1 hS1 hrp => ?_)
  · obtain ⟨rfl, rfl, rfl⟩ := hq
    refine mj_catch hK hts hown hlocks htab hdx hk hx5 hce hcv hcl hI1 (by omega) hS1 (by omega) (by omega) ?_
    unfold mj_af at haf
    dsimp only at haf
    cases hf9 : mj_find (mj_hd j) pc x with
    | none => simp only [hf9] at haf; exact haf
    | some t9 => simp only [hf9] at haf; exact haf _ _ _ _ _ _ ⟨hI1, hS1, by omega, by omega, by omega, hL, ⟨Or.inl ⟨rfl, _, rfl⟩, trivial⟩⟩
  · obtain ⟨rfl, rfl, rfl⟩ := hq
    unfold mj_af at haf
    cases r with
    | none => exact ih _ _ _ _ _ _ haf _ _ _ _ _ _ ⟨hI1, hS1, by omega, by omega, by omega, hL, hSt2⟩
    | some v => exact ih _ _ _ _ _ _ haf _ _ _ _ _ _ ⟨hI1, hS1, by omega, by omega, by omega, hL, mj_St_1 (mj_V_of (hrp v rfl)) hSt2⟩
set_option maxHeartbeats 400000 in
set_option maxRecDepth 100000 in
theorem mj_s_invokevirtual (k : Nat) (C : mj_Ctx p l R s m args meth c E sc sx sv n cap d j own cc ret ini Rr Q) (hw : mj_len own cc ret ini pc (.invokevirtual k) = some w) (kd0 : mj_kd (.invokevirtual k) = true)
    (ih : ∀ ls st h cl rc rs, mj_b sc mj_tx mj_na Rr (mj_hd j) (mj_JZ p l e R s m args below meth c E n cap Q) Q is ft ls st h cl rc rs → mj_JZ p l e R s m args below meth c E n cap Q (pc + w) ls st h cl rc rs)
    (H : mj_b sc mj_tx mj_na Rr (mj_hd j) (mj_JZ p l e R s m args below meth c E n cap Q) Q ((pc, .invokevirtual k) :: is) ft ls st h cl rc rs) : mj_JZ p l e R s m args below meth c E n cap Q pc ls st h cl rc rs := by
  obtain ⟨hx, hb, hml, hown, hts, hK, hlocks, hret, hini, ⟨htab, hdx, hk, hthr⟩, hst, hRf, hRl, hn45, hcap, hR, hzb⟩ := C
  have had : ∀ k c, h[k]? = some c → h.length + rc ≤ cap → E.2.1 k = E.1 + k := fun k c hk hc => hK.2.2.2.2.2.2.2.2.2 k (by have := (List.getElem?_eq_some_iff.mp hk).1; omega)
  have hKK := hK.1.1
  intro H0 locs cells slots ls' st' hat
  obtain ⟨hI, hS, hc, hs, hcp, hL, hSt⟩ := hat
  obtain ⟨a, as, rest, fs, o, h', cl', dc, ds, rfl, hn1, hp1, ha1, hcat, hdc1, hds1, hRr, haf⟩ := H
  obtain ⟨z1, z2, e0, hSt1, hSt2⟩ := mj_St_app hSt
  clear hSt
  subst e0
  have hz1 : z1 = (as.map (mj_rl E.2.1)).reverse := by rw [mj_St_map (fun v hv => List.all_eq_true.mp hp1 v (List.mem_reverse.mp hv)) hSt1, List.map_reverse]
  subst hz1
  obtain ⟨z2, e0, hSt9⟩ := mj_St_r hSt2
  clear hSt2
  subst e0
  have hSt2 := hSt9
  clear hSt9
  have hcat' : (z2.map fun v => v.category).sum ≤ 8 := by rw [mj_St_cat hSt2]; exact hcat
  obtain ⟨r, hr, hdc, rfl⟩ := mj_len_dc (fun _ h => by cases h) hw
  obtain ⟨g, hr⟩ := mj_if hr
  obtain ⟨ix, g2, rfl⟩ := List.mem_map.mp hr
  obtain ⟨e9, hm, hf, hf0⟩ := mj_kd_v kd0
  have hCon := hR _ _ _ _ _ _ _ _ _ ⟨e9, hm, hf0⟩ hRr (h.length + dc) (Nat.le_refl _) (by omega)
  have hlnk := hts _ (mj_G_of (mj_lk_ok _ (mj_ix_mem g2)) rfl)
  rw [mj_yn_of g hm] at hlnk hCon
  refine mj_call (E := E) (cap := h.length + dc) (mj_run_v hx hb hml hown hts hm hf hlnk hCon hI hS hK hn1 ha1 (had _ _ ha1 hcp) hL.1 hcat' hdc hRf hRl (by omega) (by omega)) hS (fun x h1 cl1 ce q9 H1 locs1 hq hx5 hI1 hc1 hS1 hce hcv hcl => ?_) (fun r h1 cl1 H1 locs1 hq hI1 hc1 hS1 hrp => ?_)
  · obtain ⟨rfl, rfl, rfl⟩ := hq
    refine mj_catch hK hts hown hlocks htab hdx hk hx5 hce hcv hcl hI1 (by omega) hS1 (by omega) (by omega) ?_
    unfold mj_af at haf
    dsimp only at haf
    cases hf9 : mj_find (mj_hd j) pc x with
    | none => simp only [hf9] at haf; exact haf
    | some t9 => simp only [hf9] at haf; exact haf _ _ _ _ _ _ ⟨hI1, hS1, by omega, by omega, by omega, hL, ⟨Or.inl ⟨rfl, _, rfl⟩, trivial⟩⟩
  · obtain ⟨rfl, rfl, rfl⟩ := hq
    unfold mj_af at haf
    cases r with
    | none => exact ih _ _ _ _ _ _ haf _ _ _ _ _ _ ⟨hI1, hS1, by omega, by omega, by omega, hL, hSt2⟩
    | some v => exact ih _ _ _ _ _ _ haf _ _ _ _ _ _ ⟨hI1, hS1, by omega, by omega, by omega, hL, mj_St_1 (mj_V_of (hrp v rfl)) hSt2⟩
set_option maxHeartbeats 400000 in
set_option maxRecDepth 100000 in
theorem mj_s_invokespecial (k : Nat) (C : mj_Ctx p l R s m args meth c E sc sx sv n cap d j own cc ret ini Rr Q) (hw : mj_len own cc ret ini pc (.invokespecial k) = some w) (kd0 : mj_kd (.invokespecial k) = true)
    (ih : ∀ ls st h cl rc rs, mj_b sc mj_tx mj_na Rr (mj_hd j) (mj_JZ p l e R s m args below meth c E n cap Q) Q is ft ls st h cl rc rs → mj_JZ p l e R s m args below meth c E n cap Q (pc + w) ls st h cl rc rs)
    (H : mj_b sc mj_tx mj_na Rr (mj_hd j) (mj_JZ p l e R s m args below meth c E n cap Q) Q ((pc, .invokespecial k) :: is) ft ls st h cl rc rs) : mj_JZ p l e R s m args below meth c E n cap Q pc ls st h cl rc rs := by
  obtain ⟨hx, hb, hml, hown, hts, hK, hlocks, hret, hini, ⟨htab, hdx, hk, hthr⟩, hst, hRf, hRl, hn45, hcap, hR, hzb⟩ := C
  have had : ∀ k c, h[k]? = some c → h.length + rc ≤ cap → E.2.1 k = E.1 + k := fun k c hk hc => hK.2.2.2.2.2.2.2.2.2 k (by have := (List.getElem?_eq_some_iff.mp hk).1; omega)
  have hKK := hK.1.1
  intro H0 locs cells slots ls' st' hat
  obtain ⟨hI, hS, hc, hs, hcp, hL, hSt⟩ := hat
  obtain ⟨a, rest, o, h', cl', dc, ds, rfl, hcat, hdc1, hds1, hRr, haf⟩ := H
  obtain ⟨z2, e0, hSt9⟩ := mj_St_r hSt
  clear hSt
  subst e0
  have hSt2 := hSt9
  clear hSt9
  have hcat' : (z2.map fun v => v.category).sum ≤ 8 := by rw [mj_St_cat hSt2]; exact hcat
  obtain ⟨r, hr, hdc, hw9⟩ := mj_len_dc (fun _ h => by cases h) hw
  obtain ⟨g, hr⟩ := mj_if hr
  obtain ⟨e9, hm, hf, hk0, hf0⟩ := mj_kd_i kd0
  have hCon := hR _ _ _ _ _ _ _ _ _ ⟨e9, hm, hf0⟩ hRr (h.length + dc) (Nat.le_refl _) (by omega)
  have hrun : vx_Run p l e R s m args below meth c H0 locs cells slots dc ds (F0 m pc ls' (.ref (E.2.1 a) :: z2)) z2 (mj_Qc E (fun o1 h1 cl1 => o1 = o ∧ h1 = h' ∧ cl1 = cl') (h.length + dc) #[.ref (E.2.1 a)]) (mj_Xc E (fun o1 h1 cl1 => o1 = o ∧ h1 = h' ∧ cl1 = cl') (h.length + dc)) (mj_A E) := by
    rw [mj_yn_of g hm] at hCon
    rcases List.mem_append.mp hr with hr | hr
    · obtain ⟨ix, g2, rfl⟩ := List.mem_map.mp hr
      have hlnk := hts _ (mj_G_of (mj_lk_ok _ (mj_ix_mem g2)) rfl)
      rw [mj_yn_of g hm] at hlnk
      exact mj_run_i hx hb hml hown hts hm hf hlnk hCon hI hS hK hk0 hL.1 hcat' hdc hRf hRl (by omega) (by omega)
    · obtain ⟨ix, g2, rfl⟩ := List.mem_map.mp hr
      have hlnk := hK.2.2.1 _ (mj_lkN_in _ (mj_ix_mem g2))
      rw [mj_yn_of g hm] at hlnk
      exact mj_run_in hx hb hml hown hts hm hf hlnk hCon hI hS hK hk0 hL.1 hcat' hdc hRf hRl (by omega) (by omega)
  have hw3 : w = 3 := by
    rw [hw9]
    rcases List.mem_append.mp hr with hr | hr <;> (obtain ⟨ix, g2, rfl⟩ := List.mem_map.mp hr; rfl)
  subst hw3
  refine mj_call (E := E) (cap := h.length + dc) hrun hS (fun x h1 cl1 ce q9 H1 locs1 hq hx5 hI1 hc1 hS1 hce hcv hcl => ?_) (fun r h1 cl1 H1 locs1 hq hI1 hc1 hS1 hrp => ?_)
  · obtain ⟨rfl, rfl, rfl⟩ := hq
    refine mj_catch hK hts hown hlocks htab hdx hk hx5 hce hcv hcl hI1 (by omega) hS1 (by omega) (by omega) ?_
    unfold mj_af at haf
    dsimp only at haf
    cases hf9 : mj_find (mj_hd j) pc x with
    | none => simp only [hf9] at haf; exact haf
    | some t9 => simp only [hf9] at haf; exact haf _ _ _ _ _ _ ⟨hI1, hS1, by omega, by omega, by omega, hL, ⟨Or.inl ⟨rfl, _, rfl⟩, trivial⟩⟩
  · obtain ⟨rfl, rfl, rfl⟩ := hq
    unfold mj_af at haf
    cases r with
    | none => exact ih _ _ _ _ _ _ haf _ _ _ _ _ _ ⟨hI1, hS1, by omega, by omega, by omega, hL, hSt2⟩
    | some v => exact ih _ _ _ _ _ _ haf _ _ _ _ _ _ ⟨hI1, hS1, by omega, by omega, by omega, hL, mj_St_1 (mj_V_of (hrp v rfl)) hSt2⟩
set_option maxHeartbeats 400000 in
set_option maxRecDepth 100000 in
theorem mj_s_pop2 (C : mj_Ctx p l R s m args meth c E sc sx sv n cap d j own cc ret ini Rr Q) (hw : mj_len own cc ret ini pc (.pop2) = some w) (kd0 : mj_kd (.pop2) = true)
    (ih : ∀ ls st h cl rc rs, mj_b sc mj_tx mj_na Rr (mj_hd j) (mj_JZ p l e R s m args below meth c E n cap Q) Q is ft ls st h cl rc rs → mj_JZ p l e R s m args below meth c E n cap Q (pc + w) ls st h cl rc rs)
    (H : mj_b sc mj_tx mj_na Rr (mj_hd j) (mj_JZ p l e R s m args below meth c E n cap Q) Q ((pc, .pop2) :: is) ft ls st h cl rc rs) : mj_JZ p l e R s m args below meth c E n cap Q pc ls st h cl rc rs := by
  obtain ⟨hx, hb, hml, hown, hts, hK, hlocks, hret, hini, ⟨htab, hdx, hk, hthr⟩, hst, hRf, hRl, hn45, hcap, hR, hzb⟩ := C
  have had : ∀ k c, h[k]? = some c → h.length + rc ≤ cap → E.2.1 k = E.1 + k := fun k c hk hc => hK.2.2.2.2.2.2.2.2.2 k (by have := (List.getElem?_eq_some_iff.mp hk).1; omega)
  have hKK := hK.1.1
  intro H0 locs cells slots ls' st' hat
  obtain ⟨hI, hS, hc, hs, hcp, hL, hSt⟩ := hat
  obtain ⟨a, t, rfl, hcat, h2⟩ := H
  obtain ⟨t', e0, hSt9⟩ := mj_St_r hSt
  clear hSt
  subst e0
  have hSt := hSt9
  clear hSt9
  obtain ⟨r, hr, hdc, rfl⟩ := mj_len_dc (fun _ h => by cases h) hw
  obtain ⟨ix, g2, rfl⟩ := List.mem_map.mp hr
  exact W.objInit hx hb hown (hts _ (mj_G_of (mj_lk_ok _ (mj_ix_mem g2)) rfl)) (hts _ mj_obj_in.1) (hts _ mj_obj_in.2) rfl (by rw [hml]; exact hL.1) rfl hdc (by omega) (by have := mj_St_cat hSt; show 2 * 0 + _ + _ ≤ _; omega) (ih _ _ _ _ _ _ h2 _ _ _ _ _ _ ⟨hI, hS, hc, hs, hcp, hL, hSt⟩)
set_option maxHeartbeats 400000 in
set_option maxRecDepth 100000 in
theorem mj_s_dup_x1 (C : mj_Ctx p l R s m args meth c E sc sx sv n cap d j own cc ret ini Rr Q) (hw : mj_len own cc ret ini pc (.dup_x1) = some w) (kd0 : mj_kd (.dup_x1) = true)
    (ih : ∀ ls st h cl rc rs, mj_b sc mj_tx mj_na Rr (mj_hd j) (mj_JZ p l e R s m args below meth c E n cap Q) Q is ft ls st h cl rc rs → mj_JZ p l e R s m args below meth c E n cap Q (pc + w) ls st h cl rc rs)
    (H : mj_b sc mj_tx mj_na Rr (mj_hd j) (mj_JZ p l e R s m args below meth c E n cap Q) Q ((pc, .dup_x1) :: is) ft ls st h cl rc rs) : mj_JZ p l e R s m args below meth c E n cap Q pc ls st h cl rc rs := by
  obtain ⟨hx, hb, hml, hown, hts, hK, hlocks, hret, hini, ⟨htab, hdx, hk, hthr⟩, hst, hRf, hRl, hn45, hcap, hR, hzb⟩ := C
  have had : ∀ k c, h[k]? = some c → h.length + rc ≤ cap → E.2.1 k = E.1 + k := fun k c hk hc => hK.2.2.2.2.2.2.2.2.2 k (by have := (List.getElem?_eq_some_iff.mp hk).1; omega)
  have hKK := hK.1.1
  intro H0 locs cells slots ls' st' hat
  obtain ⟨hI, hS, hc, hs, hcp, hL, hSt⟩ := hat
  obtain ⟨x, y, t, rfl, hcat, h2⟩ := H
  obtain ⟨t', e0, hSt9⟩ := mj_St_i hSt
  clear hSt
  subst e0
  have hSt := hSt9
  clear hSt9
  obtain ⟨t', e0, hSt9⟩ := mj_St_i hSt
  clear hSt
  subst e0
  have hSt := hSt9
  clear hSt9
  obtain ⟨r, hr, hdc, rfl⟩ := mj_len_dc (fun _ h => by cases h) hw
  obtain ⟨ix, g2, rfl⟩ := List.mem_map.mp hr
  exact va_mmax hx hb (by rw [hml]; exact hL.1.symm) hown (hts _ (mj_G_of (mj_lk_ok _ (mj_ix_mem g2)) rfl)) (hts _ mj_max_in.1) (hts _ mj_max_in.2.1) (hts _ mj_max_in.2.2) (by omega) (by have := mj_St_cat hSt; omega) (by omega) (by omega) hdc (ih _ _ _ _ _ _ h2 _ _ _ _ _ _ ⟨hI, hS, hc, hs, hcp, hL, mj_St_1 (mj_V_of rfl) hSt⟩)
set_option maxHeartbeats 400000 in
set_option maxRecDepth 100000 in
theorem mj_s_dup_x2 (C : mj_Ctx p l R s m args meth c E sc sx sv n cap d j own cc ret ini Rr Q) (hw : mj_len own cc ret ini pc (.dup_x2) = some w) (kd0 : mj_kd (.dup_x2) = true)
    (ih : ∀ ls st h cl rc rs, mj_b sc mj_tx mj_na Rr (mj_hd j) (mj_JZ p l e R s m args below meth c E n cap Q) Q is ft ls st h cl rc rs → mj_JZ p l e R s m args below meth c E n cap Q (pc + w) ls st h cl rc rs)
    (H : mj_b sc mj_tx mj_na Rr (mj_hd j) (mj_JZ p l e R s m args below meth c E n cap Q) Q ((pc, .dup_x2) :: is) ft ls st h cl rc rs) : mj_JZ p l e R s m args below meth c E n cap Q pc ls st h cl rc rs := by
  obtain ⟨hx, hb, hml, hown, hts, hK, hlocks, hret, hini, ⟨htab, hdx, hk, hthr⟩, hst, hRf, hRl, hn45, hcap, hR, hzb⟩ := C
  have had : ∀ k c, h[k]? = some c → h.length + rc ≤ cap → E.2.1 k = E.1 + k := fun k c hk hc => hK.2.2.2.2.2.2.2.2.2 k (by have := (List.getElem?_eq_some_iff.mp hk).1; omega)
  have hKK := hK.1.1
  intro H0 locs cells slots ls' st' hat
  obtain ⟨hI, hS, hc, hs, hcp, hL, hSt⟩ := hat
  obtain ⟨x, y, t, rfl, hcat, h2⟩ := H
  obtain ⟨t', e0, hSt9⟩ := mj_St_i hSt
  clear hSt
  subst e0
  have hSt := hSt9
  clear hSt9
  obtain ⟨t', e0, hSt9⟩ := mj_St_i hSt
  clear hSt
  subst e0
  have hSt := hSt9
  clear hSt9
  obtain ⟨r, hr, hdc, rfl⟩ := mj_len_dc (fun _ h => by cases h) hw
  obtain ⟨ix, g2, rfl⟩ := List.mem_map.mp hr
  exact va_mmin hx hb (by rw [hml]; exact hL.1.symm) hown (hts _ (mj_G_of (mj_lk_ok _ (mj_ix_mem g2)) rfl)) (hts _ mj_min_in.1) (hts _ mj_min_in.2.1) (hts _ mj_min_in.2.2) (by omega) (by have := mj_St_cat hSt; omega) (by omega) (by omega) hdc (ih _ _ _ _ _ _ h2 _ _ _ _ _ _ ⟨hI, hS, hc, hs, hcp, hL, mj_St_1 (mj_V_of rfl) hSt⟩)
set_option maxHeartbeats 400000 in
set_option maxRecDepth 100000 in
theorem mj_s_dup2_x1 (C : mj_Ctx p l R s m args meth c E sc sx sv n cap d j own cc ret ini Rr Q) (hw : mj_len own cc ret ini pc (.dup2_x1) = some w) (kd0 : mj_kd (.dup2_x1) = true)
    (ih : ∀ ls st h cl rc rs, mj_b sc mj_tx mj_na Rr (mj_hd j) (mj_JZ p l e R s m args below meth c E n cap Q) Q is ft ls st h cl rc rs → mj_JZ p l e R s m args below meth c E n cap Q (pc + w) ls st h cl rc rs)
    (H : mj_b sc mj_tx mj_na Rr (mj_hd j) (mj_JZ p l e R s m args below meth c E n cap Q) Q ((pc, .dup2_x1) :: is) ft ls st h cl rc rs) : mj_JZ p l e R s m args below meth c E n cap Q pc ls st h cl rc rs := by
  obtain ⟨hx, hb, hml, hown, hts, hK, hlocks, hret, hini, ⟨htab, hdx, hk, hthr⟩, hst, hRf, hRl, hn45, hcap, hR, hzb⟩ := C
  have had : ∀ k c, h[k]? = some c → h.length + rc ≤ cap → E.2.1 k = E.1 + k := fun k c hk hc => hK.2.2.2.2.2.2.2.2.2 k (by have := (List.getElem?_eq_some_iff.mp hk).1; omega)
  have hKK := hK.1.1
  intro H0 locs cells slots ls' st' hat
  obtain ⟨hI, hS, hc, hs, hcp, hL, hSt⟩ := hat
  obtain ⟨n2, dp, a, sp, b, t, n0, n1, f, g, rfl, ha0, ha1, h1, h2, h3, h4, h5, hcat, h6⟩ := H
  obtain ⟨t', e0, hSt9⟩ := mj_St_i hSt
  clear hSt
  subst e0
  have hSt := hSt9
  clear hSt9
  obtain ⟨t', e0, hSt9⟩ := mj_St_i hSt
  clear hSt
  subst e0
  have hSt := hSt9
  clear hSt9
  obtain ⟨t', e0, hSt9⟩ := mj_St_r hSt
  clear hSt
  subst e0
  have hSt := hSt9
  clear hSt9
  obtain ⟨t', e0, hSt9⟩ := mj_St_i hSt
  clear hSt
  subst e0
  have hSt := hSt9
  clear hSt9
  obtain ⟨t', e0, hSt9⟩ := mj_St_r hSt
  clear hSt
  subst e0
  have hSt := hSt9
  clear hSt9
  obtain ⟨r, hr, hdc, rfl⟩ := mj_len_dc (fun _ h => by cases h) hw
  obtain ⟨ix, g2, rfl⟩ := List.mem_map.mp hr
  rw [had _ _ ha0 hcp, had _ _ ha1 hcp]
  exact mj_copy hx hb (by rw [hml]; exact hL.1.symm) hown (hts _ (mj_G_of (mj_lk_ok _ (mj_ix_mem g2)) rfl)) (hts _ mj_cpy_in.1) (hts _ mj_cpy_in.2.1) (hts _ mj_cpy_in.2.2) hKK hI.1 hS ha0 ha1 h1 h2 h3 h4 h5 (by omega) (by have := mj_St_cat hSt; have := mj_nfw; omega) hdc (fun H1 locs1 z1 z2 z3 => ih _ _ _ _ _ _ h6 _ _ _ _ _ _ ⟨mj_I_set hI z1 rfl z2, z3, hc, hs, by rw [List.length_set]; exact hcp, hL, hSt⟩)
set_option maxHeartbeats 400000 in
set_option maxRecDepth 100000 in
theorem mj_s_dup2_x2 (C : mj_Ctx p l R s m args meth c E sc sx sv n cap d j own cc ret ini Rr Q) (hw : mj_len own cc ret ini pc (.dup2_x2) = some w) (kd0 : mj_kd (.dup2_x2) = true)
    (ih : ∀ ls st h cl rc rs, mj_b sc mj_tx mj_na Rr (mj_hd j) (mj_JZ p l e R s m args below meth c E n cap Q) Q is ft ls st h cl rc rs → mj_JZ p l e R s m args below meth c E n cap Q (pc + w) ls st h cl rc rs)
    (H : mj_b sc mj_tx mj_na Rr (mj_hd j) (mj_JZ p l e R s m args below meth c E n cap Q) Q ((pc, .dup2_x2) :: is) ft ls st h cl rc rs) : mj_JZ p l e R s m args below meth c E n cap Q pc ls st h cl rc rs := by
  obtain ⟨hx, hb, hml, hown, hts, hK, hlocks, hret, hini, ⟨htab, hdx, hk, hthr⟩, hst, hRf, hRl, hn45, hcap, hR, hzb⟩ := C
  have had : ∀ k c, h[k]? = some c → h.length + rc ≤ cap → E.2.1 k = E.1 + k := fun k c hk hc => hK.2.2.2.2.2.2.2.2.2 k (by have := (List.getElem?_eq_some_iff.mp hk).1; omega)
  have hKK := hK.1.1
  intro H0 locs cells slots ls' st' hat
  obtain ⟨hI, hS, hc, hs, hcp, hL, hSt⟩ := hat
  obtain ⟨k, t, rfl, hk1, hcat, h2⟩ := H
  obtain ⟨t', e0, hSt9⟩ := mj_St_r hSt
  clear hSt
  subst e0
  have hSt := hSt9
  clear hSt9
  obtain ⟨r, hr, hdc, rfl⟩ := mj_len_dc (fun _ h => by cases h) hw
  obtain ⟨ix, g2, rfl⟩ := List.mem_map.mp hr
  exact mj_strlen hx hb hml hown hts hK hS hL.1 (mj_tx_lt hk1) (mj_ix_mem g2) (by rw [mj_St_cat hSt]; exact hcat) hdc hRf hRl (by omega) (by omega) (ih _ _ _ _ _ _ h2 _ _ _ _ _ _ ⟨hI, hS, hc, hs, hcp, hL, mj_St_1 (mj_V_of rfl) hSt⟩)
set_option maxHeartbeats 400000 in
set_option maxRecDepth 100000 in
theorem mj_s_swap (C : mj_Ctx p l R s m args meth c E sc sx sv n cap d j own cc ret ini Rr Q) (hw : mj_len own cc ret ini pc (.swap) = some w) (kd0 : mj_kd (.swap) = true)
    (ih : ∀ ls st h cl rc rs, mj_b sc mj_tx mj_na Rr (mj_hd j) (mj_JZ p l e R s m args below meth c E n cap Q) Q is ft ls st h cl rc rs → mj_JZ p l e R s m args below meth c E n cap Q (pc + w) ls st h cl rc rs)
    (H : mj_b sc mj_tx mj_na Rr (mj_hd j) (mj_JZ p l e R s m args below meth c E n cap Q) Q ((pc, .swap) :: is) ft ls st h cl rc rs) : mj_JZ p l e R s m args below meth c E n cap Q pc ls st h cl rc rs := by
  obtain ⟨hx, hb, hml, hown, hts, hK, hlocks, hret, hini, ⟨htab, hdx, hk, hthr⟩, hst, hRf, hRl, hn45, hcap, hR, hzb⟩ := C
  have had : ∀ k c, h[k]? = some c → h.length + rc ≤ cap → E.2.1 k = E.1 + k := fun k c hk hc => hK.2.2.2.2.2.2.2.2.2 k (by have := (List.getElem?_eq_some_iff.mp hk).1; omega)
  have hKK := hK.1.1
  intro H0 locs cells slots ls' st' hat
  obtain ⟨hI, hS, hc, hs, hcp, hL, hSt⟩ := hat
  obtain ⟨k, k2, t, rfl, hk1, hcat, h2⟩ := H
  obtain ⟨t', e0, hSt9⟩ := mj_St_i hSt
  clear hSt
  subst e0
  have hSt := hSt9
  clear hSt9
  obtain ⟨t', e0, hSt9⟩ := mj_St_r hSt
  clear hSt
  subst e0
  have hSt := hSt9
  clear hSt9
  obtain ⟨r, hr, hdc, rfl⟩ := mj_len_dc (fun _ h => by cases h) hw
  obtain ⟨ix, g2, rfl⟩ := List.mem_map.mp hr
  exact mj_strchar hx hb hml hown hts hK hS hL.1 (mj_tx_lt (fun q => by rw [q] at hk1; exact absurd hk1 (Nat.not_lt_zero _))) hk1 (mj_ix_mem g2) (by rw [mj_St_cat hSt]; exact hcat) hdc hRf hRl (by omega) (by omega) (ih _ _ _ _ _ _ h2 _ _ _ _ _ _ ⟨hI, hS, hc, hs, hcp, hL, mj_St_1 (mj_V_of rfl) hSt⟩)
set_option maxHeartbeats 4000000 in
set_option maxRecDepth 100000 in
theorem mj_snd (C : mj_Ctx p l R s m args meth c E sc sx sv n cap d j own cc ret ini Rr Q) :
    ∀ (is : mj_B) (cur ft : Nat) (ls st : List Value) (h : mj_H) (cl : Bool) (rc rs : Nat), mj_b sc mj_tx mj_na Rr (mj_hd j) (mj_JZ p l e R s m args below meth c E n cap Q) Q is ft ls st h cl rc rs → mj_ckb own cc ret ini is cur ft = true → (∀ z ∈ is, mj_kd z.2 = true) →
      mj_JZ p l e R s m args below meth c E n cap Q cur ls st h cl rc rs := by
  intro is
  induction is with
  | nil =>
    intro cur ft ls st h cl rc rs H ck _
    have : cur = ft := by simpa [mj_ckb] using ck
    subst this
    exact H
  | cons q is ih =>
    obtain ⟨pc, i⟩ := q
    intro cur ft ls st h cl rc rs H ck kd
    obtain ⟨rfl, w, hw, ck⟩ := mj_ckb_cons ck
    have kd0 := kd _ List.mem_cons_self
    have ih := fun ls st h cl rc rs H => ih (pc + w) ft ls st h cl rc rs H ck (fun z hz => kd z (List.mem_cons_of_mem _ hz))
    clear kd ck
    cases i
    case iload => first | exact mj_s_iload C hw kd0 ih H | exact mj_s_iload _ C hw kd0 ih H | exact mj_s_iload _ _ C hw kd0 ih H | exact mj_s_iload _ _ _ _ C hw kd0 ih H
    case lload => first | exact mj_s_lload C hw kd0 ih H | exact mj_s_lload _ C hw kd0 ih H | exact mj_s_lload _ _ C hw kd0 ih H | exact mj_s_lload _ _ _ _ C hw kd0 ih H
    case aload => first | exact mj_s_aload C hw kd0 ih H | exact mj_s_aload _ C hw kd0 ih H | exact mj_s_aload _ _ C hw kd0 ih H | exact mj_s_aload _ _ _ _ C hw kd0 ih H
    case istore => first | exact mj_s_istore C hw kd0 ih H | exact mj_s_istore _ C hw kd0 ih H | exact mj_s_istore _ _ C hw kd0 ih H | exact mj_s_istore _ _ _ _ C hw kd0 ih H
    case astore => first | exact mj_s_astore C hw kd0 ih H | exact mj_s_astore _ C hw kd0 ih H | exact mj_s_astore _ _ C hw kd0 ih H | exact mj_s_astore _ _ _ _ C hw kd0 ih H
    case lstore => first | exact mj_s_lstore C hw kd0 ih H | exact mj_s_lstore _ C hw kd0 ih H | exact mj_s_lstore _ _ C hw kd0 ih H | exact mj_s_lstore _ _ _ _ C hw kd0 ih H
    case iconst => first | exact mj_s_iconst C hw kd0 ih H | exact mj_s_iconst _ C hw kd0 ih H | exact mj_s_iconst _ _ C hw kd0 ih H | exact mj_s_iconst _ _ _ _ C hw kd0 ih H
    case ldc2_w => first | exact mj_s_ldc2_w C hw kd0 ih H | exact mj_s_ldc2_w _ C hw kd0 ih H | exact mj_s_ldc2_w _ _ C hw kd0 ih H | exact mj_s_ldc2_w _ _ _ _ C hw kd0 ih H
    case ldc => first | exact mj_s_ldc C hw kd0 ih H | exact mj_s_ldc _ C hw kd0 ih H | exact mj_s_ldc _ _ C hw kd0 ih H | exact mj_s_ldc _ _ _ _ C hw kd0 ih H
    case iinc => first | exact mj_s_iinc C hw kd0 ih H | exact mj_s_iinc _ C hw kd0 ih H | exact mj_s_iinc _ _ C hw kd0 ih H | exact mj_s_iinc _ _ _ _ C hw kd0 ih H
    case ineg => first | exact mj_s_ineg C hw kd0 ih H | exact mj_s_ineg _ C hw kd0 ih H | exact mj_s_ineg _ _ C hw kd0 ih H | exact mj_s_ineg _ _ _ _ C hw kd0 ih H
    case i2l => first | exact mj_s_i2l C hw kd0 ih H | exact mj_s_i2l _ C hw kd0 ih H | exact mj_s_i2l _ _ C hw kd0 ih H | exact mj_s_i2l _ _ _ _ C hw kd0 ih H
    case l2i => first | exact mj_s_l2i C hw kd0 ih H | exact mj_s_l2i _ C hw kd0 ih H | exact mj_s_l2i _ _ C hw kd0 ih H | exact mj_s_l2i _ _ _ _ C hw kd0 ih H
    case lcmp => first | exact mj_s_lcmp C hw kd0 ih H | exact mj_s_lcmp _ C hw kd0 ih H | exact mj_s_lcmp _ _ C hw kd0 ih H | exact mj_s_lcmp _ _ _ _ C hw kd0 ih H
    case dup => first | exact mj_s_dup C hw kd0 ih H | exact mj_s_dup _ C hw kd0 ih H | exact mj_s_dup _ _ C hw kd0 ih H | exact mj_s_dup _ _ _ _ C hw kd0 ih H
    case pop => first | exact mj_s_pop C hw kd0 ih H | exact mj_s_pop _ C hw kd0 ih H | exact mj_s_pop _ _ C hw kd0 ih H | exact mj_s_pop _ _ _ _ C hw kd0 ih H
    case dup2 => first | exact mj_s_dup2 C hw kd0 ih H | exact mj_s_dup2 _ C hw kd0 ih H | exact mj_s_dup2 _ _ C hw kd0 ih H | exact mj_s_dup2 _ _ _ _ C hw kd0 ih H
    case ladd => first | exact mj_s_ladd C hw kd0 ih H | exact mj_s_ladd _ C hw kd0 ih H | exact mj_s_ladd _ _ C hw kd0 ih H | exact mj_s_ladd _ _ _ _ C hw kd0 ih H
    case lmul => first | exact mj_s_lmul C hw kd0 ih H | exact mj_s_lmul _ C hw kd0 ih H | exact mj_s_lmul _ _ C hw kd0 ih H | exact mj_s_lmul _ _ _ _ C hw kd0 ih H
    case ldiv => first | exact mj_s_ldiv C hw kd0 ih H | exact mj_s_ldiv _ C hw kd0 ih H | exact mj_s_ldiv _ _ C hw kd0 ih H | exact mj_s_ldiv _ _ _ _ C hw kd0 ih H
    case iadd => first | exact mj_s_iadd C hw kd0 ih H | exact mj_s_iadd _ C hw kd0 ih H | exact mj_s_iadd _ _ C hw kd0 ih H | exact mj_s_iadd _ _ _ _ C hw kd0 ih H
    case isub => first | exact mj_s_isub C hw kd0 ih H | exact mj_s_isub _ C hw kd0 ih H | exact mj_s_isub _ _ C hw kd0 ih H | exact mj_s_isub _ _ _ _ C hw kd0 ih H
    case imul => first | exact mj_s_imul C hw kd0 ih H | exact mj_s_imul _ C hw kd0 ih H | exact mj_s_imul _ _ C hw kd0 ih H | exact mj_s_imul _ _ _ _ C hw kd0 ih H
    case iand => first | exact mj_s_iand C hw kd0 ih H | exact mj_s_iand _ C hw kd0 ih H | exact mj_s_iand _ _ C hw kd0 ih H | exact mj_s_iand _ _ _ _ C hw kd0 ih H
    case ior => first | exact mj_s_ior C hw kd0 ih H | exact mj_s_ior _ C hw kd0 ih H | exact mj_s_ior _ _ C hw kd0 ih H | exact mj_s_ior _ _ _ _ C hw kd0 ih H
    case ixor => first | exact mj_s_ixor C hw kd0 ih H | exact mj_s_ixor _ C hw kd0 ih H | exact mj_s_ixor _ _ C hw kd0 ih H | exact mj_s_ixor _ _ _ _ C hw kd0 ih H
    case ishl => first | exact mj_s_ishl C hw kd0 ih H | exact mj_s_ishl _ C hw kd0 ih H | exact mj_s_ishl _ _ C hw kd0 ih H | exact mj_s_ishl _ _ _ _ C hw kd0 ih H
    case ishr => first | exact mj_s_ishr C hw kd0 ih H | exact mj_s_ishr _ C hw kd0 ih H | exact mj_s_ishr _ _ C hw kd0 ih H | exact mj_s_ishr _ _ _ _ C hw kd0 ih H
    case iushr => first | exact mj_s_iushr C hw kd0 ih H | exact mj_s_iushr _ C hw kd0 ih H | exact mj_s_iushr _ _ C hw kd0 ih H | exact mj_s_iushr _ _ _ _ C hw kd0 ih H
    case idiv => first | exact mj_s_idiv C hw kd0 ih H | exact mj_s_idiv _ C hw kd0 ih H | exact mj_s_idiv _ _ C hw kd0 ih H | exact mj_s_idiv _ _ _ _ C hw kd0 ih H
    case irem => first | exact mj_s_irem C hw kd0 ih H | exact mj_s_irem _ C hw kd0 ih H | exact mj_s_irem _ _ C hw kd0 ih H | exact mj_s_irem _ _ _ _ C hw kd0 ih H
    case goto => first | exact mj_s_goto C hw kd0 ih H | exact mj_s_goto _ C hw kd0 ih H | exact mj_s_goto _ _ C hw kd0 ih H | exact mj_s_goto _ _ _ _ C hw kd0 ih H
    case ifCond => first | exact mj_s_ifCond C hw kd0 ih H | exact mj_s_ifCond _ C hw kd0 ih H | exact mj_s_ifCond _ _ C hw kd0 ih H | exact mj_s_ifCond _ _ _ _ C hw kd0 ih H
    case if_icmp => first | exact mj_s_if_icmp C hw kd0 ih H | exact mj_s_if_icmp _ C hw kd0 ih H | exact mj_s_if_icmp _ _ C hw kd0 ih H | exact mj_s_if_icmp _ _ _ _ C hw kd0 ih H
    case ifnull => first | exact mj_s_ifnull C hw kd0 ih H | exact mj_s_ifnull _ C hw kd0 ih H | exact mj_s_ifnull _ _ C hw kd0 ih H | exact mj_s_ifnull _ _ _ _ C hw kd0 ih H
    case ifnonnull => first | exact mj_s_ifnonnull C hw kd0 ih H | exact mj_s_ifnonnull _ C hw kd0 ih H | exact mj_s_ifnonnull _ _ C hw kd0 ih H | exact mj_s_ifnonnull _ _ _ _ C hw kd0 ih H
    case tableswitch => first | exact mj_s_tableswitch C hw kd0 ih H | exact mj_s_tableswitch _ C hw kd0 ih H | exact mj_s_tableswitch _ _ C hw kd0 ih H | exact mj_s_tableswitch _ _ _ _ C hw kd0 ih H
    case getfield => first | exact mj_s_getfield C hw kd0 ih H | exact mj_s_getfield _ C hw kd0 ih H | exact mj_s_getfield _ _ C hw kd0 ih H | exact mj_s_getfield _ _ _ _ C hw kd0 ih H
    case putfield => first | exact mj_s_putfield C hw kd0 ih H | exact mj_s_putfield _ C hw kd0 ih H | exact mj_s_putfield _ _ C hw kd0 ih H | exact mj_s_putfield _ _ _ _ C hw kd0 ih H
    case iaload => first | exact mj_s_iaload C hw kd0 ih H | exact mj_s_iaload _ C hw kd0 ih H | exact mj_s_iaload _ _ C hw kd0 ih H | exact mj_s_iaload _ _ _ _ C hw kd0 ih H
    case iastore => first | exact mj_s_iastore C hw kd0 ih H | exact mj_s_iastore _ C hw kd0 ih H | exact mj_s_iastore _ _ C hw kd0 ih H | exact mj_s_iastore _ _ _ _ C hw kd0 ih H
    case baload => first | exact mj_s_baload C hw kd0 ih H | exact mj_s_baload _ C hw kd0 ih H | exact mj_s_baload _ _ C hw kd0 ih H | exact mj_s_baload _ _ _ _ C hw kd0 ih H
    case bastore => first | exact mj_s_bastore C hw kd0 ih H | exact mj_s_bastore _ C hw kd0 ih H | exact mj_s_bastore _ _ C hw kd0 ih H | exact mj_s_bastore _ _ _ _ C hw kd0 ih H
    case laload => first | exact mj_s_laload C hw kd0 ih H | exact mj_s_laload _ C hw kd0 ih H | exact mj_s_laload _ _ C hw kd0 ih H | exact mj_s_laload _ _ _ _ C hw kd0 ih H
    case lastore => first | exact mj_s_lastore C hw kd0 ih H | exact mj_s_lastore _ C hw kd0 ih H | exact mj_s_lastore _ _ C hw kd0 ih H | exact mj_s_lastore _ _ _ _ C hw kd0 ih H
    case aaload => first | exact mj_s_aaload C hw kd0 ih H | exact mj_s_aaload _ C hw kd0 ih H | exact mj_s_aaload _ _ C hw kd0 ih H | exact mj_s_aaload _ _ _ _ C hw kd0 ih H
    case aastore => first | exact mj_s_aastore C hw kd0 ih H | exact mj_s_aastore _ C hw kd0 ih H | exact mj_s_aastore _ _ C hw kd0 ih H | exact mj_s_aastore _ _ _ _ C hw kd0 ih H
    case arraylength => first | exact mj_s_arraylength C hw kd0 ih H | exact mj_s_arraylength _ C hw kd0 ih H | exact mj_s_arraylength _ _ C hw kd0 ih H | exact mj_s_arraylength _ _ _ _ C hw kd0 ih H
    case new => first | exact mj_s_new C hw kd0 ih H | exact mj_s_new _ C hw kd0 ih H | exact mj_s_new _ _ C hw kd0 ih H | exact mj_s_new _ _ _ _ C hw kd0 ih H
    case newarray => first | exact mj_s_newarray C hw kd0 ih H | exact mj_s_newarray _ C hw kd0 ih H | exact mj_s_newarray _ _ C hw kd0 ih H | exact mj_s_newarray _ _ _ _ C hw kd0 ih H
    case anewarray => first | exact mj_s_anewarray C hw kd0 ih H | exact mj_s_anewarray _ C hw kd0 ih H | exact mj_s_anewarray _ _ C hw kd0 ih H | exact mj_s_anewarray _ _ _ _ C hw kd0 ih H
    case ireturn => first | exact mj_s_ireturn C hw kd0 ih H | exact mj_s_ireturn _ C hw kd0 ih H | exact mj_s_ireturn _ _ C hw kd0 ih H | exact mj_s_ireturn _ _ _ _ C hw kd0 ih H
    case lreturn => first | exact mj_s_lreturn C hw kd0 ih H | exact mj_s_lreturn _ C hw kd0 ih H | exact mj_s_lreturn _ _ C hw kd0 ih H | exact mj_s_lreturn _ _ _ _ C hw kd0 ih H
    case return_ => first | exact mj_s_return_ C hw kd0 ih H | exact mj_s_return_ _ C hw kd0 ih H | exact mj_s_return_ _ _ C hw kd0 ih H | exact mj_s_return_ _ _ _ _ C hw kd0 ih H
    case instanceof => first | exact mj_s_instanceof C hw kd0 ih H | exact mj_s_instanceof _ C hw kd0 ih H | exact mj_s_instanceof _ _ C hw kd0 ih H | exact mj_s_instanceof _ _ _ _ C hw kd0 ih H
    case invokestatic => first | exact mj_s_invokestatic C hw kd0 ih H | exact mj_s_invokestatic _ C hw kd0 ih H | exact mj_s_invokestatic _ _ C hw kd0 ih H | exact mj_s_invokestatic _ _ _ _ C hw kd0 ih H
    case invokevirtual => first | exact mj_s_invokevirtual C hw kd0 ih H | exact mj_s_invokevirtual _ C hw kd0 ih H | exact mj_s_invokevirtual _ _ C hw kd0 ih H | exact mj_s_invokevirtual _ _ _ _ C hw kd0 ih H
    case invokespecial => first | exact mj_s_invokespecial C hw kd0 ih H | exact mj_s_invokespecial _ C hw kd0 ih H | exact mj_s_invokespecial _ _ C hw kd0 ih H | exact mj_s_invokespecial _ _ _ _ C hw kd0 ih H
    case pop2 => first | exact mj_s_pop2 C hw kd0 ih H | exact mj_s_pop2 _ C hw kd0 ih H | exact mj_s_pop2 _ _ C hw kd0 ih H | exact mj_s_pop2 _ _ _ _ C hw kd0 ih H
    case dup_x1 => first | exact mj_s_dup_x1 C hw kd0 ih H | exact mj_s_dup_x1 _ C hw kd0 ih H | exact mj_s_dup_x1 _ _ C hw kd0 ih H | exact mj_s_dup_x1 _ _ _ _ C hw kd0 ih H
    case dup_x2 => first | exact mj_s_dup_x2 C hw kd0 ih H | exact mj_s_dup_x2 _ C hw kd0 ih H | exact mj_s_dup_x2 _ _ C hw kd0 ih H | exact mj_s_dup_x2 _ _ _ _ C hw kd0 ih H
    case dup2_x1 => first | exact mj_s_dup2_x1 C hw kd0 ih H | exact mj_s_dup2_x1 _ C hw kd0 ih H | exact mj_s_dup2_x1 _ _ C hw kd0 ih H | exact mj_s_dup2_x1 _ _ _ _ C hw kd0 ih H
    case dup2_x2 => first | exact mj_s_dup2_x2 C hw kd0 ih H | exact mj_s_dup2_x2 _ C hw kd0 ih H | exact mj_s_dup2_x2 _ _ C hw kd0 ih H | exact mj_s_dup2_x2 _ _ _ _ C hw kd0 ih H
    case swap => first | exact mj_s_swap C hw kd0 ih H | exact mj_s_swap _ C hw kd0 ih H | exact mj_s_swap _ _ C hw kd0 ih H | exact mj_s_swap _ _ _ _ C hw kd0 ih H
    all_goals exact H.elim
end MJM
