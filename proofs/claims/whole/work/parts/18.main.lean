section MJM
variable {p : Program} {l : Launch} {e : Env} {R : Room} {s : State} {m : MethodId} {args : Array Value} {below : List Frame} {meth : Method} {c : Code}
variable {E : mj_E} {sc : Nat × (Nat → Int32)} {sx sv : Nat → Nat} {n cap : Nat}
theorem mj_catch {own pc : Nat} {cells slots : Nat} {H : Heap} {locs : List Loc} {ls : Array Slot} {rest : List Value} {Q : mj_Q} {hh : List (Nat × Nat × Nat × Nat)} {hd : List (Nat × Nat × Nat × Nat)} {x q : Nat} {ce : Cell} {h : mj_H} {cl : Bool}
    (hK : mj_K E sc sx sv s s.heap) (hts : ∀ w ∈ mj_G, w.before args s = true) (hown : s.vm.findClass (mj_cn own) = some m.cls) (hlocks : meth.locks = false)
    (htab : c.exceptionTable.toList = tableOf hh) (hdx : hd = hh.map (fun e => (e.1, e.2.1, e.2.2.1, mj_hx e.2.2.2))) (hk : ∀ e ∈ hh, own = 13 ∧ e.2.2.2 ≠ 0 ∧ mj_hx e.2.2.2 < 5 ∧ Cond.classLink (mj_cn own) e.2.2.2 (mj_xn (mj_hx e.2.2.2)) ∈ mj_G)
    (hx5 : x < 5) (hce : H[q]? = some ce) (hcv : ce.vm = .none) (hcl : s.vm.findClass (mj_xn x) = some ce.cls) (hI : mj_I E h cl H) (hcap : h.length ≤ cap) (hS : va_S (mj_A E) s.heap H locs) (hc : cells ≤ R.cells) (hs : slots ≤ R.slots)
    (k : match mj_find hd pc x with
      | some t => W p l e R s m args below meth c H locs cells slots (vx_MQ below (mj_Qc E Q cap) (mj_Xc E Q cap) args s R.cells R.slots (mj_A E)) (F0 m t ls [.ref q])
      | none => Q (.inr x) h cl) :
    vx_W p l e R s m args below meth c H locs cells slots (vx_MQ below (mj_Qc E Q cap) (mj_Xc E Q cap) args s R.cells R.slots (mj_A E)) (F0 m pc ls rest) q := by
  have go : ∀ (pre suf : List (Nat × Nat × Nat × Nat)), hh = pre ++ suf → (∀ z ∈ tableOf pre, covers z pc = false ∨ (z.catchType ≠ 0 ∧ ∃ nm : String, (Cond.classLink (mj_cn own) z.catchType nm).before args s = true ∧ va_Nc (mj_xn x) nm s)) → mj_find hd pc x = mj_find (suf.map (fun e => (e.1, e.2.1, e.2.2.1, mj_hx e.2.2.2))) pc x →
      vx_W p l e R s m args below meth c H locs cells slots (vx_MQ below (mj_Qc E Q cap) (mj_Xc E Q cap) args s R.cells R.slots (mj_A E)) (F0 m pc ls rest) q := by
    intro pre suf
    induction suf generalizing pre with
    | nil =>
      intro e1 e2 e3
      rw [e3] at k
      rw [List.append_nil] at e1
      have htab' := htab
      rw [e1] at htab'
      refine vx_outP hown hlocks (fun z hz => e2 z (by rw [← htab']; exact hz)) hce hcv hcl (fun t ht _ => ⟨⟨x, h, cl, k, rfl, hx5, by rw [ht]; exact hI, hcap⟩, hS.F ht⟩) hS.2.2 hc hs
    | cons q0 suf ih =>
      intro e1 e2 e3
      obtain ⟨a, b, t, y⟩ := q0
      have hk0 := hk (a, b, t, y) (by rw [e1]; exact List.mem_append_right _ List.mem_cons_self)
      by_cases g : a ≤ pc ∧ pc < b ∧ x = mj_hx y
      · have e4 : mj_find hd pc x = some t := by
          rw [e3, List.map_cons]
          unfold mj_find
          exact if_pos g
        rw [e4] at k
        have hcast : (Cond.castable (mj_xn x) (mj_xn x)).before args s = true := va_Nw.use rfl (hK.2.2.1 _ (mj_cast_in x hx5))
        refine vx_catch (x := ⟨a, b, t, y⟩) (pre := tableOf pre) (suf := tableOf suf) (name := mj_xn x) hown ?_ e2 ?_ hk0.2.1 ?_ hcast hce hcv hcl k
        · rw [htab, e1]; unfold tableOf; rw [List.map_append]; rfl
        · simp [covers, g.1, g.2.1]
        · have := hts _ hk0.2.2.2
          rw [← g.2.2] at this
          exact this
      · refine ih (pre ++ [(a, b, t, y)]) (by rw [e1, List.append_assoc]; rfl) (fun z hz => ?_) ?_
        · unfold tableOf at hz
          rw [List.map_append] at hz
          rcases List.mem_append.mp hz with hz | hz
          · exact e2 z hz
          · have hz' : z = ⟨a, b, t, y⟩ := by simpa using hz
            subst hz'
            by_cases g1 : a ≤ pc ∧ pc < b
            · have g2 : x ≠ mj_hx y := fun e => g ⟨g1.1, g1.2, e⟩
              exact Or.inr ⟨hk0.2.1, _, hts _ hk0.2.2.2, hK.2.2.2.1 x _ hx5 hk0.2.2.1 g2⟩
            · left
              simp only [covers]
              by_cases g2 : a ≤ pc
              · have g3 : ¬ pc < b := fun g4 => g1 ⟨g2, g4⟩
                simp [g3]
              · simp [g2]
        · rw [e3, List.map_cons]
          conv => lhs; unfold mj_find
          exact if_neg g
  exact go [] hh rfl (fun z hz => by cases hz) (by rw [hdx])
set_option maxHeartbeats 4000000 in
set_option maxRecDepth 100000 in
theorem mj_snd {d j own : Nat} {cc : ByteArray} {ret : Option FieldType} {ini : Bool} {Rr : mj_R} {Q : mj_Q}
    (hx : p.tables.exec = Jvm.exec) (hb : c.code = cc) (hml : c.maxLocals = n) (hown : s.vm.findClass (mj_cn own) = some m.cls) (hts : ∀ w ∈ mj_G, w.before args s = true) (hK : mj_K E sc sx sv s s.heap) (hlocks : meth.locks = false) (hret : meth.sig.returnType = ret) (hini : ini = true → meth.name = "<init>")
    (htab : c.exceptionTable.toList = tableOf (mj_hh j)) (hdx : mj_hd j = (mj_hh j).map (fun e => (e.1, e.2.1, e.2.2.1, mj_hx e.2.2.2))) (hk : ∀ e ∈ mj_hh j, own = 13 ∧ e.2.2.2 ≠ 0 ∧ mj_hx e.2.2.2 < 5 ∧ Cond.classLink (mj_cn own) e.2.2.2 (mj_xn (mj_hx e.2.2.2)) ∈ mj_G) (hthr : (mj_hh j) ≠ [] → own = 13)
    (hst : l.stackTraces = false) (hRf : d + 9 ≤ R.frames) (hRl : 64 * (d + 1) + 400 ≤ R.locals) (hn45 : n ≤ 45) (hcap : cap < mj_SC)
    (hR : ∀ j as h cl dc ds o h' cl', Rr j as h cl dc ds o h' cl' → mj_Con l E sc sx sv d j as h cl dc ds o h' cl')
    (hzb : ∀ x h cl, Q (.inl (some (.int x))) h cl → ret = some .boolean → narrow .boolean (.int x) = .int x) :
    ∀ (is : mj_B) (cur ft : Nat) (ls st : List Value) (h : mj_H) (cl : Bool) (rc rs : Nat), mj_b sc mj_tx mj_na Rr (mj_hd j) (mj_JW p l e R s m args below meth c E n cap (vx_MQ below (mj_Qc E Q cap) (mj_Xc E Q cap) args s R.cells R.slots (mj_A E))) Q is ft ls st h cl rc rs → mj_ckb own cc ret ini is cur ft = true → (∀ z ∈ is, mj_kd z.2 = true) →
      mj_JW p l e R s m args below meth c E n cap (vx_MQ below (mj_Qc E Q cap) (mj_Xc E Q cap) args s R.cells R.slots (mj_A E)) cur ls st h cl rc rs := by
  intro is
  induction is with
  | nil =>
    intro cur ft ls st h cl rc rs H ck _
    have : cur = ft := by simpa [mj_ckb] using ck
    subst this
    exact H
  | cons q is ih =>
    obtain ⟨pc, i⟩ := q
    intro cur ft ls st h cl rc rs H ck kd
    obtain ⟨rfl, w, hw, ck⟩ := mj_ckb_cons ck
    have kd0 := kd _ List.mem_cons_self
    have ih := fun ls st h cl rc rs H => ih (pc + w) ft ls st h cl rc rs H ck (fun z hz => kd z (List.mem_cons_of_mem _ hz))
    clear kd ck
    have had : ∀ k c, h[k]? = some c → h.length + rc ≤ cap → E.2.1 k = E.1 + k := fun k c hk hc => hK.2.2.2.2.2.2.2.2.2 k (by have := (List.getElem?_eq_some_iff.mp hk).1; omega)
    have hKK := hK.1.1
    intro H0 locs cells slots ls' st' hat
    obtain ⟨hI, hS, hc, hs, hcp, hL, hSt⟩ := hat
    cases i
    case iload k =>
      obtain ⟨x, h1, h2⟩ := H
      obtain ⟨r, hr, hdc, rfl⟩ := mj_len_dc (fun _ => by simp) hw
      simp only [mj_cand] at hr
      rcases List.mem_cons.mp hr with rfl | hr
      · exact lv_iload hx hb hdc (mj_L_int hL h1) (ih _ _ _ _ _ _ h2 _ _ _ _ _ _ ⟨hI, hS, hc, hs, hcp, hL, mj_St_1 (mj_V_of rfl) hSt⟩)
      · split at hr
        · rename_i g
          cases List.mem_singleton.mp hr
          exact lv_iload_n hx hb hdc (Nat.mod_eq_of_lt g) (mj_L_int hL h1) (ih _ _ _ _ _ _ h2 _ _ _ _ _ _ ⟨hI, hS, hc, hs, hcp, hL, mj_St_1 (mj_V_of rfl) hSt⟩)
        · cases hr
    case lload k =>
      obtain ⟨x, h1, h2⟩ := H
      obtain ⟨r, hr, hdc, rfl⟩ := mj_len_dc (fun _ => by simp) hw
      simp only [mj_cand] at hr
      rcases List.mem_cons.mp hr with rfl | hr
      · exact lv_lload hx hb hdc (mj_L_long hL h1) (ih _ _ _ _ _ _ h2 _ _ _ _ _ _ ⟨hI, hS, hc, hs, hcp, hL, mj_St_1 (mj_V_of rfl) hSt⟩)
      · split at hr
        · rename_i g
          cases List.mem_singleton.mp hr
          exact lv_lload_n hx hb hdc (Nat.mod_eq_of_lt g) (mj_L_long hL h1) (ih _ _ _ _ _ _ h2 _ _ _ _ _ _ ⟨hI, hS, hc, hs, hcp, hL, mj_St_1 (mj_V_of rfl) hSt⟩)
        · cases hr
    case aload k =>
      obtain ⟨x, h1, h2⟩ := H
      obtain ⟨r, hr, hdc, rfl⟩ := mj_len_dc (fun _ => by simp) hw
      simp only [mj_cand] at hr
      rcases List.mem_cons.mp hr with rfl | hr
      · exact lv_aload hx hb hdc (mj_L_ref hL h1) (ih _ _ _ _ _ _ h2 _ _ _ _ _ _ ⟨hI, hS, hc, hs, hcp, hL, mj_St_1 (mj_V_of rfl) hSt⟩)
      · split at hr
        · rename_i g
          cases List.mem_singleton.mp hr
          exact lv_aload_n hx hb hdc (Nat.mod_eq_of_lt g) (mj_L_ref hL h1) (ih _ _ _ _ _ _ h2 _ _ _ _ _ _ ⟨hI, hS, hc, hs, hcp, hL, mj_St_1 (mj_V_of rfl) hSt⟩)
        · cases hr
    case istore k =>
      obtain ⟨x, t, rfl, h1, h2, h3⟩ := H
      obtain ⟨t', rfl, hSt⟩ := mj_St_i hSt
      rw [hL.2.2.1] at h1
      obtain ⟨r, hr, hdc, rfl⟩ := mj_len_dc (fun _ => by simp) hw
      simp only [mj_cand] at hr
      rcases List.mem_cons.mp hr with rfl | hr
      · exact lv_istore hx hb hdc (mj_al_has hL.1 hL.2.1) h1 rfl (fun l2 hl2 => ih _ _ _ _ _ _ h3 _ _ _ _ _ _ ⟨hI, hS, hc, hs, hcp, mj_L_set1 hL h1 h2 (mj_V_of rfl) hl2, hSt⟩)
      · split at hr
        · rename_i g
          cases List.mem_singleton.mp hr
          exact lv_istore_n hx hb hdc (Nat.mod_eq_of_lt g) (mj_al_has hL.1 hL.2.1) h1 rfl (fun l2 hl2 => ih _ _ _ _ _ _ h3 _ _ _ _ _ _ ⟨hI, hS, hc, hs, hcp, mj_L_set1 hL h1 h2 (mj_V_of rfl) hl2, hSt⟩)
        · cases hr
    case astore k =>
      obtain ⟨x, t, rfl, hv, h1, h2, h3⟩ := H
      obtain ⟨y, t', rfl, hV, hSt⟩ := mj_St_cons hSt
      obtain ⟨z, rfl⟩ : ∃ z, y = .ref z := by
        rcases hv with rfl | ⟨a, rfl⟩
        · rcases hV with ⟨-, q, rfl⟩ | ⟨hp, -⟩
          · exact ⟨q, rfl⟩
          · cases hp
        · exact ⟨_, mj_V_ref hV⟩
      rw [hL.2.2.1] at h1
      obtain ⟨r, hr, hdc, rfl⟩ := mj_len_dc (fun _ => by simp) hw
      simp only [mj_cand] at hr
      rcases List.mem_cons.mp hr with rfl | hr
      · exact lv_astore hx hb hdc (mj_al_has hL.1 hL.2.1) h1 rfl (fun l2 hl2 => ih _ _ _ _ _ _ h3 _ _ _ _ _ _ ⟨hI, hS, hc, hs, hcp, mj_L_set1 hL h1 h2 hV hl2, hSt⟩)
      · split at hr
        · rename_i g
          cases List.mem_singleton.mp hr
          exact lv_astore_n hx hb hdc (Nat.mod_eq_of_lt g) (mj_al_has hL.1 hL.2.1) h1 rfl (fun l2 hl2 => ih _ _ _ _ _ _ h3 _ _ _ _ _ _ ⟨hI, hS, hc, hs, hcp, mj_L_set1 hL h1 h2 hV hl2, hSt⟩)
        · cases hr
    case lstore k =>
      obtain ⟨x, t, rfl, h1, h2, h3⟩ := H
      obtain ⟨t', rfl, hSt⟩ := mj_St_l hSt
      rw [hL.2.2.1] at h1
      obtain ⟨r, hr, hdc, rfl⟩ := mj_len_dc (fun _ => by simp) hw
      simp only [mj_cand] at hr
      rcases List.mem_cons.mp hr with rfl | hr
      · exact lv_lstore hx hb hdc (mj_al_has hL.1 hL.2.1) h1 rfl (fun l2 hl2 => ih _ _ _ _ _ _ h3 _ _ _ _ _ _ ⟨hI, hS, hc, hs, hcp, mj_L_set2 hL h1 h2 (mj_V_of rfl) hl2, hSt⟩)
      · split at hr
        · rename_i g
          cases List.mem_singleton.mp hr
          exact lv_lstore_n hx hb hdc (Nat.mod_eq_of_lt g) (mj_al_has hL.1 hL.2.1) h1 rfl (fun l2 hl2 => ih _ _ _ _ _ _ h3 _ _ _ _ _ _ ⟨hI, hS, hc, hs, hcp, mj_L_set2 hL h1 h2 (mj_V_of rfl) hl2, hSt⟩)
        · cases hr
    case iconst k =>
      obtain ⟨r, hr, hdc, rfl⟩ := mj_len_dc (fun _ => by simp) hw
      simp only [mj_cand] at hr
      have K := ih _ _ _ _ _ _ H
      rcases List.mem_cons.mp hr with rfl | hr
      · exact lv_iconst hx hb hdc rfl (K _ _ _ _ _ _ ⟨hI, hS, hc, hs, hcp, hL, mj_St_1 (mj_V_of rfl) hSt⟩)
      rcases List.mem_append.mp hr with hr | hr
      · split at hr
        · rename_i g
          cases List.mem_singleton.mp hr
          exact lv_bipush hx hb hdc g (K _ _ _ _ _ _ ⟨hI, hS, hc, hs, hcp, hL, mj_St_1 (mj_V_of rfl) hSt⟩)
        · cases hr
      rcases List.mem_append.mp hr with hr | hr
      · split at hr
        · rename_i g
          cases List.mem_singleton.mp hr
          exact lv_sipush hx hb hdc g (K _ _ _ _ _ _ ⟨hI, hS, hc, hs, hcp, hL, mj_St_1 (mj_V_of rfl) hSt⟩)
        · cases hr
      rcases List.mem_append.mp hr with hr | hr
      · obtain ⟨ix, g, rfl⟩ := List.mem_map.mp hr
        exact lv_ldc hx hb hown (hts _ (mj_G_of (mj_lkC_ok _ (mj_ixI_mem g)) rfl)) hdc (K _ _ _ _ _ _ ⟨hI, hS, hc, hs, hcp, hL, mj_St_1 (mj_V_of rfl) hSt⟩)
      · obtain ⟨ix, g, rfl⟩ := List.mem_map.mp hr
        exact lv_ldcw hx hb hown (hts _ (mj_G_of (mj_lkC_ok _ (mj_ixI_mem g)) rfl)) hdc (K _ _ _ _ _ _ ⟨hI, hS, hc, hs, hcp, hL, mj_St_1 (mj_V_of rfl) hSt⟩)
    case ldc2_w k =>
      obtain ⟨r, hr, hdc, rfl⟩ := mj_len_dc (fun _ => by simp) hw
      simp only [mj_cand] at hr
      have K := ih _ _ _ _ _ _ H
      rcases List.mem_append.mp hr with hr | hr
      · split at hr
        · rename_i g
          cases List.mem_singleton.mp hr
          exact lv_lconst hx hb hdc (by rw [show ((Fin.ofNat 2 k : Fin 2) : Nat) = k from Nat.mod_eq_of_lt g]) (K _ _ _ _ _ _ ⟨hI, hS, hc, hs, hcp, hL, mj_St_1 (mj_V_of rfl) hSt⟩)
        · cases hr
      · obtain ⟨ix, g, rfl⟩ := List.mem_map.mp hr
        exact lv_ldc2 hx hb hown (hts _ (mj_G_of (mj_lkL_ok _ (mj_ix_mem g)) rfl)) hdc (K _ _ _ _ _ _ ⟨hI, hS, hc, hs, hcp, hL, mj_St_1 (mj_V_of rfl) hSt⟩)
    case ldc k =>
      obtain ⟨r, hr, hdc, rfl⟩ := mj_len_dc (fun _ => by simp) hw
      simp only [mj_cand] at hr
      have K := ih _ _ _ _ _ _ H
      rcases List.mem_append.mp hr with hr | hr
      · obtain ⟨ix, g, rfl⟩ := List.mem_map.mp hr
        exact mj_ldcs hx hb hown (hK.2.2.2.2.1 _ (mj_ix_mem g)) hdc (K _ _ _ _ _ _ ⟨hI, hS, hc, hs, hcp, hL, mj_St_1 (mj_V_of rfl) hSt⟩)
      · obtain ⟨ix, g, rfl⟩ := List.mem_map.mp hr
        exact mj_ldcsw hx hb hown (hK.2.2.2.2.1 _ (mj_ix_mem g)) hdc (K _ _ _ _ _ _ ⟨hI, hS, hc, hs, hcp, hL, mj_St_1 (mj_V_of rfl) hSt⟩)
    case iinc k v =>
      obtain ⟨x, h1, h2, h3⟩ := H
      obtain ⟨r, hr, hdc, rfl⟩ := mj_len_dc (fun _ => by simp) hw
      simp only [mj_cand] at hr
      cases List.mem_singleton.mp hr
      have hkn : k < n := by
        have := (List.getElem?_eq_some_iff.mp h1).1
        rw [hL.2.2.1] at this; exact this
      obtain ⟨z, hz⟩ := List.getElem?_of_mem (mj_al_mem (mj_L_int hL h1))
      exact lv_iinc hx hb hdc (mj_al_has hL.1 hL.2.1) hz rfl hkn rfl (fun l2 hl2 => ih _ _ _ _ _ _ h3 _ _ _ _ _ _ ⟨hI, hS, hc, hs, hcp, mj_L_set1 hL hkn h2 (mj_V_of rfl) hl2, hSt⟩)
    case ineg =>
      obtain ⟨x, t, rfl, h2⟩ := H
      obtain ⟨t', rfl, hSt⟩ := mj_St_i hSt
      obtain ⟨r, hr, hdc, rfl⟩ := mj_len_dc (fun _ => by simp) hw
      simp only [mj_cand] at hr
      cases List.mem_singleton.mp hr
      exact lv_ineg hx hb hdc (ih _ _ _ _ _ _ h2 _ _ _ _ _ _ ⟨hI, hS, hc, hs, hcp, hL, mj_St_1 (mj_V_of rfl) hSt⟩)
    case i2l =>
      obtain ⟨x, t, rfl, h2⟩ := H
      obtain ⟨t', rfl, hSt⟩ := mj_St_i hSt
      obtain ⟨r, hr, hdc, rfl⟩ := mj_len_dc (fun _ => by simp) hw
      simp only [mj_cand] at hr
      cases List.mem_singleton.mp hr
      exact lv_i2l hx hb hdc rfl (ih _ _ _ _ _ _ h2 _ _ _ _ _ _ ⟨hI, hS, hc, hs, hcp, hL, mj_St_1 (mj_V_of rfl) hSt⟩)
    case l2i =>
      obtain ⟨x, t, rfl, h2⟩ := H
      obtain ⟨t', rfl, hSt⟩ := mj_St_l hSt
      obtain ⟨r, hr, hdc, rfl⟩ := mj_len_dc (fun _ => by simp) hw
      simp only [mj_cand] at hr
      cases List.mem_singleton.mp hr
      exact lv_l2i hx hb hdc rfl (ih _ _ _ _ _ _ h2 _ _ _ _ _ _ ⟨hI, hS, hc, hs, hcp, hL, mj_St_1 (mj_V_of rfl) hSt⟩)
    case lcmp =>
      obtain ⟨x, y, t, rfl, h2⟩ := H
      obtain ⟨t', rfl, hSt⟩ := mj_St_l hSt
      obtain ⟨t', rfl, hSt⟩ := mj_St_l hSt
      obtain ⟨r, hr, hdc, rfl⟩ := mj_len_dc (fun _ => by simp) hw
      simp only [mj_cand] at hr
      cases List.mem_singleton.mp hr
      exact W.lcmp hx hb hdc (ih _ _ _ _ _ _ h2 _ _ _ _ _ _ ⟨hI, hS, hc, hs, hcp, hL, mj_St_1 (mj_V_of rfl) hSt⟩)
    case dup =>
      obtain ⟨v, t, rfl, hv, h2⟩ := H
      obtain ⟨r, hr, hdc, rfl⟩ := mj_len_dc (fun _ => by simp) hw
      simp only [mj_cand] at hr
      cases List.mem_singleton.mp hr
      rcases hv with ⟨x, rfl⟩ | ⟨x, rfl⟩
      · obtain ⟨t', rfl, hSt⟩ := mj_St_i hSt
        exact lv_dup hx hb hdc rfl (ih _ _ _ _ _ _ h2 _ _ _ _ _ _ ⟨hI, hS, hc, hs, hcp, hL, mj_St_1 (mj_V_of rfl) (mj_St_1 (mj_V_of rfl) hSt)⟩)
      · obtain ⟨t', rfl, hSt⟩ := mj_St_r hSt
        exact lv_dup hx hb hdc rfl (ih _ _ _ _ _ _ h2 _ _ _ _ _ _ ⟨hI, hS, hc, hs, hcp, hL, mj_St_1 (mj_V_of rfl) (mj_St_1 (mj_V_of rfl) hSt)⟩)
    case pop =>
      obtain ⟨v, t, rfl, hv, h2⟩ := H
      obtain ⟨r, hr, hdc, rfl⟩ := mj_len_dc (fun _ => by simp) hw
      simp only [mj_cand] at hr
      cases List.mem_singleton.mp hr
      rcases hv with ⟨x, rfl⟩ | ⟨x, rfl⟩
      · obtain ⟨t', rfl, hSt⟩ := mj_St_i hSt
        exact lv_pop hx hb hdc rfl (ih _ _ _ _ _ _ h2 _ _ _ _ _ _ ⟨hI, hS, hc, hs, hcp, hL, hSt⟩)
      · obtain ⟨t', rfl, hSt⟩ := mj_St_r hSt
        exact lv_pop hx hb hdc rfl (ih _ _ _ _ _ _ h2 _ _ _ _ _ _ ⟨hI, hS, hc, hs, hcp, hL, hSt⟩)
    case dup2 =>
      obtain ⟨x, a, t, rfl, h2⟩ := H
      obtain ⟨r, hr, hdc, rfl⟩ := mj_len_dc (fun _ => by simp) hw
      simp only [mj_cand] at hr
      cases List.mem_singleton.mp hr
      obtain ⟨t', rfl, hSt⟩ := mj_St_i hSt
      obtain ⟨t', rfl, hSt⟩ := mj_St_r hSt
      exact lv_dup2_11 hx hb hdc rfl rfl (ih _ _ _ _ _ _ h2 _ _ _ _ _ _ ⟨hI, hS, hc, hs, hcp, hL, mj_St_1 (mj_V_of rfl) (mj_St_1 (mj_V_of rfl) (mj_St_1 (mj_V_of rfl) (mj_St_1 (mj_V_of rfl) hSt)))⟩)
    case ladd =>
      obtain ⟨x, y, z, t, rfl, h1, h2⟩ := H
      obtain ⟨t', rfl, hSt⟩ := mj_St_l hSt
      obtain ⟨t', rfl, hSt⟩ := mj_St_l hSt
      obtain ⟨r, hr, hdc, rfl⟩ := mj_len_dc (fun _ => by simp) hw
      simp only [mj_cand] at hr
      cases List.mem_singleton.mp hr
      cases h1
      exact lv_ladd hx hb hdc (ih _ _ _ _ _ _ h2 _ _ _ _ _ _ ⟨hI, hS, hc, hs, hcp, hL, mj_St_1 (mj_V_of rfl) hSt⟩)
    case lmul =>
      obtain ⟨x, y, z, t, rfl, h1, h2⟩ := H
      obtain ⟨t', rfl, hSt⟩ := mj_St_l hSt
      obtain ⟨t', rfl, hSt⟩ := mj_St_l hSt
      obtain ⟨r, hr, hdc, rfl⟩ := mj_len_dc (fun _ => by simp) hw
      simp only [mj_cand] at hr
      cases List.mem_singleton.mp hr
      cases h1
      exact lv_lmul hx hb hdc (ih _ _ _ _ _ _ h2 _ _ _ _ _ _ ⟨hI, hS, hc, hs, hcp, hL, mj_St_1 (mj_V_of rfl) hSt⟩)
    case ldiv =>
      obtain ⟨x, y, z, t, rfl, h1, h2⟩ := H
      obtain ⟨t', rfl, hSt⟩ := mj_St_l hSt
      obtain ⟨t', rfl, hSt⟩ := mj_St_l hSt
      obtain ⟨r, hr, hdc, rfl⟩ := mj_len_dc (fun _ => by simp) hw
      simp only [mj_cand] at hr
      cases List.mem_singleton.mp hr
      have hne : ¬ y = 0 := fun q => by simp [mj_l2, q] at h1
      have hz : x / y = z := by simpa [mj_l2, hne] using h1
      subst hz
      exact lv_ldiv hx hb hdc hne (ih _ _ _ _ _ _ h2 _ _ _ _ _ _ ⟨hI, hS, hc, hs, hcp, hL, mj_St_1 (mj_V_of rfl) hSt⟩)
    case iadd =>
      obtain ⟨x, y, z, t, rfl, h1, h2⟩ := H
      obtain ⟨t', rfl, hSt⟩ := mj_St_i hSt
      obtain ⟨t', rfl, hSt⟩ := mj_St_i hSt
      obtain ⟨r, hr, hdc, rfl⟩ := mj_len_dc (fun _ => by simp) hw
      simp only [mj_cand] at hr
      cases List.mem_singleton.mp hr
      cases h1
      exact lv_iadd hx hb hdc (ih _ _ _ _ _ _ h2 _ _ _ _ _ _ ⟨hI, hS, hc, hs, hcp, hL, mj_St_1 (mj_V_of rfl) hSt⟩)
    case isub =>
      obtain ⟨x, y, z, t, rfl, h1, h2⟩ := H
      obtain ⟨t', rfl, hSt⟩ := mj_St_i hSt
      obtain ⟨t', rfl, hSt⟩ := mj_St_i hSt
      obtain ⟨r, hr, hdc, rfl⟩ := mj_len_dc (fun _ => by simp) hw
      simp only [mj_cand] at hr
      cases List.mem_singleton.mp hr
      cases h1
      exact lv_isub hx hb hdc (ih _ _ _ _ _ _ h2 _ _ _ _ _ _ ⟨hI, hS, hc, hs, hcp, hL, mj_St_1 (mj_V_of rfl) hSt⟩)
    case imul =>
      obtain ⟨x, y, z, t, rfl, h1, h2⟩ := H
      obtain ⟨t', rfl, hSt⟩ := mj_St_i hSt
      obtain ⟨t', rfl, hSt⟩ := mj_St_i hSt
      obtain ⟨r, hr, hdc, rfl⟩ := mj_len_dc (fun _ => by simp) hw
      simp only [mj_cand] at hr
      cases List.mem_singleton.mp hr
      cases h1
      exact lv_imul hx hb hdc (ih _ _ _ _ _ _ h2 _ _ _ _ _ _ ⟨hI, hS, hc, hs, hcp, hL, mj_St_1 (mj_V_of rfl) hSt⟩)
    case iand =>
      obtain ⟨x, y, z, t, rfl, h1, h2⟩ := H
      obtain ⟨t', rfl, hSt⟩ := mj_St_i hSt
      obtain ⟨t', rfl, hSt⟩ := mj_St_i hSt
      obtain ⟨r, hr, hdc, rfl⟩ := mj_len_dc (fun _ => by simp) hw
      simp only [mj_cand] at hr
      cases List.mem_singleton.mp hr
      cases h1
      exact lv_iand hx hb hdc (ih _ _ _ _ _ _ h2 _ _ _ _ _ _ ⟨hI, hS, hc, hs, hcp, hL, mj_St_1 (mj_V_of rfl) hSt⟩)
    case ior =>
      obtain ⟨x, y, z, t, rfl, h1, h2⟩ := H
      obtain ⟨t', rfl, hSt⟩ := mj_St_i hSt
      obtain ⟨t', rfl, hSt⟩ := mj_St_i hSt
      obtain ⟨r, hr, hdc, rfl⟩ := mj_len_dc (fun _ => by simp) hw
      simp only [mj_cand] at hr
      cases List.mem_singleton.mp hr
      cases h1
      exact lv_ior hx hb hdc (ih _ _ _ _ _ _ h2 _ _ _ _ _ _ ⟨hI, hS, hc, hs, hcp, hL, mj_St_1 (mj_V_of rfl) hSt⟩)
    case ixor =>
      obtain ⟨x, y, z, t, rfl, h1, h2⟩ := H
      obtain ⟨t', rfl, hSt⟩ := mj_St_i hSt
      obtain ⟨t', rfl, hSt⟩ := mj_St_i hSt
      obtain ⟨r, hr, hdc, rfl⟩ := mj_len_dc (fun _ => by simp) hw
      simp only [mj_cand] at hr
      cases List.mem_singleton.mp hr
      cases h1
      exact lv_ixor hx hb hdc (ih _ _ _ _ _ _ h2 _ _ _ _ _ _ ⟨hI, hS, hc, hs, hcp, hL, mj_St_1 (mj_V_of rfl) hSt⟩)
    case ishl =>
      obtain ⟨x, y, z, t, rfl, h1, h2⟩ := H
      obtain ⟨t', rfl, hSt⟩ := mj_St_i hSt
      obtain ⟨t', rfl, hSt⟩ := mj_St_i hSt
      obtain ⟨r, hr, hdc, rfl⟩ := mj_len_dc (fun _ => by simp) hw
      simp only [mj_cand] at hr
      cases List.mem_singleton.mp hr
      cases h1
      exact lv_ishl hx hb hdc (ih _ _ _ _ _ _ h2 _ _ _ _ _ _ ⟨hI, hS, hc, hs, hcp, hL, mj_St_1 (mj_V_of rfl) hSt⟩)
    case ishr =>
      obtain ⟨x, y, z, t, rfl, h1, h2⟩ := H
      obtain ⟨t', rfl, hSt⟩ := mj_St_i hSt
      obtain ⟨t', rfl, hSt⟩ := mj_St_i hSt
      obtain ⟨r, hr, hdc, rfl⟩ := mj_len_dc (fun _ => by simp) hw
      simp only [mj_cand] at hr
      cases List.mem_singleton.mp hr
      cases h1
      exact lv_ishr hx hb hdc (ih _ _ _ _ _ _ h2 _ _ _ _ _ _ ⟨hI, hS, hc, hs, hcp, hL, mj_St_1 (mj_V_of rfl) hSt⟩)
    case iushr =>
      obtain ⟨x, y, z, t, rfl, h1, h2⟩ := H
      obtain ⟨t', rfl, hSt⟩ := mj_St_i hSt
      obtain ⟨t', rfl, hSt⟩ := mj_St_i hSt
      obtain ⟨r, hr, hdc, rfl⟩ := mj_len_dc (fun _ => by simp) hw
      simp only [mj_cand] at hr
      cases List.mem_singleton.mp hr
      cases h1
      exact lv_iushr hx hb hdc rfl (ih _ _ _ _ _ _ h2 _ _ _ _ _ _ ⟨hI, hS, hc, hs, hcp, hL, mj_St_1 (mj_V_of rfl) hSt⟩)
    case idiv =>
      obtain ⟨x, y, z, t, rfl, h1, h2⟩ := H
      obtain ⟨t', rfl, hSt⟩ := mj_St_i hSt
      obtain ⟨t', rfl, hSt⟩ := mj_St_i hSt
      obtain ⟨r, hr, hdc, rfl⟩ := mj_len_dc (fun _ => by simp) hw
      simp only [mj_cand] at hr
      cases List.mem_singleton.mp hr
      have hne : ¬ y = 0 := fun q => by simp [mj_a2, q] at h1
      have hz : x / y = z := by simpa [mj_a2, hne] using h1
      subst hz
      exact lv_idiv hx hb hdc hne (ih _ _ _ _ _ _ h2 _ _ _ _ _ _ ⟨hI, hS, hc, hs, hcp, hL, mj_St_1 (mj_V_of rfl) hSt⟩)
    case irem =>
      obtain ⟨x, y, z, t, rfl, h1, h2⟩ := H
      obtain ⟨t', rfl, hSt⟩ := mj_St_i hSt
      obtain ⟨t', rfl, hSt⟩ := mj_St_i hSt
      obtain ⟨r, hr, hdc, rfl⟩ := mj_len_dc (fun _ => by simp) hw
      simp only [mj_cand] at hr
      cases List.mem_singleton.mp hr
      have hne : ¬ y = 0 := fun q => by simp [mj_a2, q] at h1
      have hz : x % y = z := by simpa [mj_a2, hne] using h1
      subst hz
      exact lv_irem hx hb hdc hne (ih _ _ _ _ _ _ h2 _ _ _ _ _ _ ⟨hI, hS, hc, hs, hcp, hL, mj_St_1 (mj_V_of rfl) hSt⟩)
    case goto t =>
      obtain ⟨r, hr, hdc, rfl⟩ := mj_len_dc (fun _ => by simp) hw
      simp only [mj_cand] at hr
      split at hr
      case isFalse => cases hr
      rename_i g
      cases List.mem_singleton.mp hr
      exact lv_goto hx hb hdc (mj_tgt g) (H _ _ _ _ _ _ ⟨hI, hS, hc, hs, hcp, hL, hSt⟩)
    case ifCond k t =>
      obtain ⟨x, t2, rfl, h1, h2⟩ := H
      obtain ⟨t', rfl, hSt⟩ := mj_St_i hSt
      obtain ⟨r, hr, hdc, rfl⟩ := mj_len_dc (fun _ => by simp) hw
      simp only [mj_cand] at hr
      split at hr
      case isFalse => cases hr
      rename_i g
      cases List.mem_singleton.mp hr
      cases k
      · exact lv_if_eq hx hb hdc (mj_tgt g) (fun q => h1 q _ _ _ _ _ _ ⟨hI, hS, hc, hs, hcp, hL, hSt⟩) (fun q => ih _ _ _ _ _ _ (h2 (q)) _ _ _ _ _ _ ⟨hI, hS, hc, hs, hcp, hL, hSt⟩)
      · exact lv_if_ne hx hb hdc (mj_tgt g) (fun q => h1 q _ _ _ _ _ _ ⟨hI, hS, hc, hs, hcp, hL, hSt⟩) (fun q => ih _ _ _ _ _ _ (h2 (not_not_intro q)) _ _ _ _ _ _ ⟨hI, hS, hc, hs, hcp, hL, hSt⟩)
      · exact lv_if_lt hx hb hdc (mj_tgt g) (fun q => h1 q _ _ _ _ _ _ ⟨hI, hS, hc, hs, hcp, hL, hSt⟩) (fun q => ih _ _ _ _ _ _ (h2 (q)) _ _ _ _ _ _ ⟨hI, hS, hc, hs, hcp, hL, hSt⟩)
      · exact lv_if_ge hx hb hdc (mj_tgt g) (fun q => h1 q _ _ _ _ _ _ ⟨hI, hS, hc, hs, hcp, hL, hSt⟩) (fun q => ih _ _ _ _ _ _ (h2 (q)) _ _ _ _ _ _ ⟨hI, hS, hc, hs, hcp, hL, hSt⟩)
      · exact lv_if_gt hx hb hdc (mj_tgt g) (fun q => h1 q _ _ _ _ _ _ ⟨hI, hS, hc, hs, hcp, hL, hSt⟩) (fun q => ih _ _ _ _ _ _ (h2 (q)) _ _ _ _ _ _ ⟨hI, hS, hc, hs, hcp, hL, hSt⟩)
      · exact lv_if_le hx hb hdc (mj_tgt g) (fun q => h1 q _ _ _ _ _ _ ⟨hI, hS, hc, hs, hcp, hL, hSt⟩) (fun q => ih _ _ _ _ _ _ (h2 (q)) _ _ _ _ _ _ ⟨hI, hS, hc, hs, hcp, hL, hSt⟩)
    case if_icmp k t =>
      obtain ⟨x, y, t2, rfl, h1, h2⟩ := H
      obtain ⟨t', rfl, hSt⟩ := mj_St_i hSt
      obtain ⟨t', rfl, hSt⟩ := mj_St_i hSt
      obtain ⟨r, hr, hdc, rfl⟩ := mj_len_dc (fun _ => by simp) hw
      simp only [mj_cand] at hr
      split at hr
      case isFalse => cases hr
      rename_i g
      cases List.mem_singleton.mp hr
      cases k
      · exact lv_icmp_eq hx hb hdc (mj_tgt g) (fun q => h1 q _ _ _ _ _ _ ⟨hI, hS, hc, hs, hcp, hL, hSt⟩) (fun q => ih _ _ _ _ _ _ (h2 (q)) _ _ _ _ _ _ ⟨hI, hS, hc, hs, hcp, hL, hSt⟩)
      · exact lv_icmp_ne hx hb hdc (mj_tgt g) (fun q => h1 q _ _ _ _ _ _ ⟨hI, hS, hc, hs, hcp, hL, hSt⟩) (fun q => ih _ _ _ _ _ _ (h2 (not_not_intro q)) _ _ _ _ _ _ ⟨hI, hS, hc, hs, hcp, hL, hSt⟩)
      · exact lv_icmp_lt hx hb hdc (mj_tgt g) (fun q => h1 q _ _ _ _ _ _ ⟨hI, hS, hc, hs, hcp, hL, hSt⟩) (fun q => ih _ _ _ _ _ _ (h2 (q)) _ _ _ _ _ _ ⟨hI, hS, hc, hs, hcp, hL, hSt⟩)
      · exact lv_icmp_ge hx hb hdc (mj_tgt g) (fun q => h1 q _ _ _ _ _ _ ⟨hI, hS, hc, hs, hcp, hL, hSt⟩) (fun q => ih _ _ _ _ _ _ (h2 (q)) _ _ _ _ _ _ ⟨hI, hS, hc, hs, hcp, hL, hSt⟩)
      · exact lv_icmp_gt hx hb hdc (mj_tgt g) (fun q => h1 q _ _ _ _ _ _ ⟨hI, hS, hc, hs, hcp, hL, hSt⟩) (fun q => ih _ _ _ _ _ _ (h2 (q)) _ _ _ _ _ _ ⟨hI, hS, hc, hs, hcp, hL, hSt⟩)
      · exact lv_icmp_le hx hb hdc (mj_tgt g) (fun q => h1 q _ _ _ _ _ _ ⟨hI, hS, hc, hs, hcp, hL, hSt⟩) (fun q => ih _ _ _ _ _ _ (h2 (q)) _ _ _ _ _ _ ⟨hI, hS, hc, hs, hcp, hL, hSt⟩)
    case ifnull t =>
      obtain ⟨a, t2, rfl, h1⟩ := H
      obtain ⟨t', rfl, hSt⟩ := mj_St_r hSt
      obtain ⟨r, hr, hdc, rfl⟩ := mj_len_dc (fun _ => by simp) hw
      simp only [mj_cand] at hr
      split at hr
      case isFalse => cases hr
      rename_i g
      cases List.mem_singleton.mp hr
      exact lv_ifnull hx hb hdc (ih _ _ _ _ _ _ h1 _ _ _ _ _ _ ⟨hI, hS, hc, hs, hcp, hL, hSt⟩)
    case ifnonnull t =>
      obtain ⟨a, t2, rfl, h1⟩ := H
      obtain ⟨t', rfl, hSt⟩ := mj_St_r hSt
      obtain ⟨r, hr, hdc, rfl⟩ := mj_len_dc (fun _ => by simp) hw
      simp only [mj_cand] at hr
      split at hr
      case isFalse => cases hr
      rename_i g
      cases List.mem_singleton.mp hr
      exact lv_ifnonnull hx hb hdc (mj_tgt g) (h1 _ _ _ _ _ _ ⟨hI, hS, hc, hs, hcp, hL, hSt⟩)
    case tableswitch dd lo hi offs =>
      obtain ⟨x, t2, rfl, h1, h2⟩ := H
      obtain ⟨t', rfl, hSt⟩ := mj_St_i hSt
      obtain ⟨r, hr, hdc, rfl⟩ := mj_len_dc (fun _ => by simp) hw
      simp only [mj_cand] at hr
      split at hr
      case isFalse => cases hr
      rename_i g
      cases List.mem_singleton.mp hr
      by_cases q : x.toInt < lo ∨ hi < x.toInt
      · exact lv_tableOut hx hb hdc q (mj_tgt g.1) (h1 q _ _ _ _ _ _ ⟨hI, hS, hc, hs, hcp, hL, hSt⟩)
      · obtain ⟨tt, ht, hj⟩ := h2 q
        have ht0 : 0 ≤ tt := by
          have := Array.all_eq_true'.mp g.2 tt (Array.mem_of_getElem? ht)
          simpa using this
        exact lv_tableIn hx hb hdc (fun z => q (Or.inl z)) (fun z => q (Or.inr z)) (by rw [Array.getElem?_map, ht]; rfl) (mj_tgt ht0) (hj _ _ _ _ _ _ ⟨hI, hS, hc, hs, hcp, hL, hSt⟩)
    case getfield k =>
      obtain ⟨a, t, fs, v, rfl, h1, h2, h3⟩ := H
      obtain ⟨t', rfl, hSt⟩ := mj_St_r hSt
      rw [had _ _ h1 hcp]
      obtain ⟨r, hr, hdc, rfl⟩ := mj_len_dc (fun _ => by simp) hw
      simp only [mj_cand] at hr
      split at hr
      case isFalse => cases hr
      rename_i g
      obtain ⟨ix, g2, rfl⟩ := List.mem_map.mp hr
      have hp : mj_pl v = true := mj_get_pl hI h1 h2
      exact va_get hx hb hts (mj_uws g.2) hown hKK hI.1 a (mj_ws_at h1) (mj_vw g.2) (k % 64) g.1 (hts _ (mj_G_of (mj_lkF_ok _ (mj_ix_mem g2)) rfl)) (fun _ q => q) (v := mj_rl E.2.1 v) (by rw [List.getElem?_map, h2]; rfl) hdc (ih _ _ _ _ _ _ h3 _ _ _ _ _ _ ⟨hI, hS, hc, hs, hcp, hL, mj_St_1 (mj_V_of hp) hSt⟩)
    case putfield k =>
      obtain ⟨v, a, t, fs, rfl, h1, h2, h3, h4, h5, h6⟩ := H
      obtain ⟨t', rfl, hSt⟩ := mj_St_p h5 hSt
      obtain ⟨t', rfl, hSt⟩ := mj_St_r hSt
      rw [had _ _ h1 hcp]
      obtain ⟨r, hr, hdc, rfl⟩ := mj_len_dc (fun _ => by simp) hw
      simp only [mj_cand] at hr
      split at hr
      case isFalse => cases hr
      rename_i g
      obtain ⟨ix, g2, rfl⟩ := List.mem_map.mp hr
      exact mj_put hx hb g.2.1 g.1 hts hown hKK hI.1 hS h1 h2 (hts _ (mj_G_of (mj_lkF_ok _ (mj_ix_mem g2)) rfl)) (g.2.2.imp id (fun q => ⟨hini q.1, q.2⟩)) h3 h4 hdc (fun H1 locs1 z1 z2 z3 => ih _ _ _ _ _ _ h6 _ _ _ _ _ _ ⟨mj_I_set hI z1 (mj_put_cp hI h1 h5) z2, z3, hc, hs, by rw [List.length_set]; exact hcp, hL, hSt⟩)
    case iaload =>
      obtain ⟨x, a, t, n1, f, rfl, h1, h2, h3⟩ := H
      obtain ⟨t', rfl, hSt⟩ := mj_St_i hSt
      obtain ⟨t', rfl, hSt⟩ := mj_St_r hSt
      obtain ⟨r, hr, hdc, rfl⟩ := mj_len_dc (fun _ => by simp) hw
      simp only [mj_cand] at hr
      cases List.mem_singleton.mp hr
      rcases h1 with h1 | ⟨rfl, rfl, rfl⟩
      · rw [had _ _ h1 hcp]
        exact va_iald hx hb hKK hI.1 a 0 (mj_ws_at h1) rfl h2 hdc (ih _ _ _ _ _ _ h3 _ _ _ _ _ _ ⟨hI, hS, hc, hs, hcp, hL, mj_St_1 (mj_V_of rfl) hSt⟩)
      · obtain ⟨hX, hbl⟩ := hK.2.2.2.2.2.2.2.1
        exact va_sld hx hb hX (Nat.lt_of_lt_of_le hbl hK.2.2.2.2.2.2.2.2.1) (Nat.not_le.mpr hbl) hS h2 hdc (ih _ _ _ _ _ _ h3 _ _ _ _ _ _ ⟨hI, hS, hc, hs, hcp, hL, mj_St_1 (mj_V_of rfl) hSt⟩)
    case iastore =>
      obtain ⟨v, x, a, t, n1, f, rfl, h1, h2, h3⟩ := H
      obtain ⟨t', rfl, hSt⟩ := mj_St_i hSt
      obtain ⟨t', rfl, hSt⟩ := mj_St_i hSt
      obtain ⟨t', rfl, hSt⟩ := mj_St_r hSt
      rw [had _ _ h1 hcp]
      obtain ⟨r, hr, hdc, rfl⟩ := mj_len_dc (fun _ => by simp) hw
      simp only [mj_cand] at hr
      cases List.mem_singleton.mp hr
      exact mj_iast hx hb hKK hI.1 hS h1 h2 hdc (fun H1 locs1 z1 z2 z3 => ih _ _ _ _ _ _ h3 _ _ _ _ _ _ ⟨mj_I_set hI z1 rfl z2, z3, hc, hs, by rw [List.length_set]; exact hcp, hL, hSt⟩)
    case baload =>
      obtain ⟨x, a, t, n1, f, rfl, h1, h2, h3⟩ := H
      obtain ⟨t', rfl, hSt⟩ := mj_St_i hSt
      obtain ⟨t', rfl, hSt⟩ := mj_St_r hSt
      obtain ⟨r, hr, hdc, rfl⟩ := mj_len_dc (fun _ => by simp) hw
      simp only [mj_cand] at hr
      cases List.mem_singleton.mp hr
      rw [had _ _ h1 hcp]
      exact va_zald hx hb hKK hI.1 a 1 (mj_ws_at h1) rfl h2 hdc (ih _ _ _ _ _ _ h3 _ _ _ _ _ _ ⟨hI, hS, hc, hs, hcp, hL, mj_St_1 (mj_V_of rfl) hSt⟩)
    case bastore =>
      obtain ⟨v, x, a, t, n1, f, rfl, h1, h2, h3⟩ := H
      obtain ⟨t', rfl, hSt⟩ := mj_St_i hSt
      obtain ⟨t', rfl, hSt⟩ := mj_St_i hSt
      obtain ⟨t', rfl, hSt⟩ := mj_St_r hSt
      rw [had _ _ h1 hcp]
      obtain ⟨r, hr, hdc, rfl⟩ := mj_len_dc (fun _ => by simp) hw
      simp only [mj_cand] at hr
      cases List.mem_singleton.mp hr
      exact mj_zast hx hb hKK hI.1 hS h1 h2 hdc (fun H1 locs1 z1 z2 z3 => ih _ _ _ _ _ _ h3 _ _ _ _ _ _ ⟨mj_I_set hI z1 rfl z2, z3, hc, hs, by rw [List.length_set]; exact hcp, hL, hSt⟩)
    case laload =>
      obtain ⟨x, a, t, n1, f, rfl, h1, h2, h3⟩ := H
      obtain ⟨t', rfl, hSt⟩ := mj_St_i hSt
      obtain ⟨t', rfl, hSt⟩ := mj_St_r hSt
      obtain ⟨r, hr, hdc, rfl⟩ := mj_len_dc (fun _ => by simp) hw
      simp only [mj_cand] at hr
      cases List.mem_singleton.mp hr
      rw [had _ _ h1 hcp]
      exact va_lald hx hb hKK hI.1 a 2 (mj_ws_at h1) rfl h2 hdc (ih _ _ _ _ _ _ h3 _ _ _ _ _ _ ⟨hI, hS, hc, hs, hcp, hL, mj_St_1 (mj_V_of rfl) hSt⟩)
    case lastore =>
      obtain ⟨v, x, a, t, n1, f, rfl, h1, h2, h3⟩ := H
      obtain ⟨t', rfl, hSt⟩ := mj_St_l hSt
      obtain ⟨t', rfl, hSt⟩ := mj_St_i hSt
      obtain ⟨t', rfl, hSt⟩ := mj_St_r hSt
      rw [had _ _ h1 hcp]
      obtain ⟨r, hr, hdc, rfl⟩ := mj_len_dc (fun _ => by simp) hw
      simp only [mj_cand] at hr
      cases List.mem_singleton.mp hr
      exact mj_last hx hb hKK hI.1 hS h1 h2 hdc (fun H1 locs1 z1 z2 z3 => ih _ _ _ _ _ _ h3 _ _ _ _ _ _ ⟨mj_I_set hI z1 rfl z2, z3, hc, hs, by rw [List.length_set]; exact hcp, hL, hSt⟩)
    case aaload =>
      obtain ⟨x, a, t, n1, f, k, rfl, h1, h2, hk1, h3⟩ := H
      obtain ⟨t', rfl, hSt⟩ := mj_St_i hSt
      obtain ⟨t', rfl, hSt⟩ := mj_St_r hSt
      obtain ⟨r, hr, hdc, rfl⟩ := mj_len_dc (fun _ => by simp) hw
      simp only [mj_cand] at hr
      cases List.mem_singleton.mp hr
      rw [had _ _ h1 hcp]
      exact va_aldq (C := "OsierHolt$Holt") hx hb hKK hI.1 a 3 (mj_ws_at h1) rfl h2 hdc (by
        show W p l e R s m args below meth c H0 locs cells slots _ (F0 m (pc + 1) ls' (va_rf ((f x.toNatClampNeg).map E.2.1) :: t'))
        rw [hk1]
        exact ih _ _ _ _ _ _ h3 _ _ _ _ _ _ ⟨hI, hS, hc, hs, hcp, hL, mj_St_1 (mj_V_of rfl) hSt⟩)
    case aastore =>
      obtain ⟨k, x, a, t, n1, f, vs, rfl, h1, h2, hk1, h3⟩ := H
      obtain ⟨t', rfl, hSt⟩ := mj_St_r hSt
      obtain ⟨t', rfl, hSt⟩ := mj_St_i hSt
      obtain ⟨t', rfl, hSt⟩ := mj_St_r hSt
      rw [had _ _ h1 hcp, had _ _ hk1 hcp]
      obtain ⟨r, hr, hdc, rfl⟩ := mj_len_dc (fun _ => by simp) hw
      simp only [mj_cand] at hr
      cases List.mem_singleton.mp hr
      exact mj_aast hx hb hKK hI.1 hS h1 hk1 (had _ _ hk1 hcp) h2 hdc (fun H1 locs1 z1 z2 z3 => ih _ _ _ _ _ _ h3 _ _ _ _ _ _ ⟨mj_I_set hI z1 rfl z2, z3, hc, hs, by rw [List.length_set]; exact hcp, hL, hSt⟩)
    case arraylength =>
      obtain ⟨a, t, n1, f, rfl, h1, h3⟩ := H
      obtain ⟨t', rfl, hSt⟩ := mj_St_r hSt
      obtain ⟨r, hr, hdc, rfl⟩ := mj_len_dc (fun _ => by simp) hw
      simp only [mj_cand] at hr
      cases List.mem_singleton.mp hr
      rcases h1 with h1 | ⟨rfl, rfl, rfl⟩
      · rw [had _ _ h1 hcp]
        exact va_alen hx hb hKK hI.1 a 0 (mj_ws_at h1) rfl rfl hdc (ih _ _ _ _ _ _ h3 _ _ _ _ _ _ ⟨hI, hS, hc, hs, hcp, hL, mj_St_1 (mj_V_of rfl) hSt⟩)
      · obtain ⟨hX, hbl⟩ := hK.2.2.2.2.2.2.2.1
        exact va_slen hx hb hX (Nat.lt_of_lt_of_le hbl hK.2.2.2.2.2.2.2.2.1) (Nat.not_le.mpr hbl) hS hdc (ih _ _ _ _ _ _ h3 _ _ _ _ _ _ ⟨hI, hS, hc, hs, hcp, hL, mj_St_1 (mj_V_of rfl) hSt⟩)
    case new ci =>
      obtain ⟨rfl, h1, h2, h3⟩ := H
      have hln : h.length < mj_SC := by omega
      have had2 : E.2.1 h.length = E.1 + h.length := hK.2.2.2.2.2.2.2.2.2 _ hln
      obtain ⟨r, hr, hdc, rfl⟩ := mj_len_dc (fun _ => by simp) hw
      simp only [mj_cand] at hr
      split at hr
      case isFalse => cases hr
      rename_i g
      obtain ⟨ix, g2, rfl⟩ := List.mem_map.mp hr
      exact mj_newo hx hb g hts hown (hts _ (mj_G_of (mj_lkA_ok _ (mj_ix_mem g2)) rfl)) (hts _ (mj_inst_in ci g).1) (hts _ (mj_inst_in ci g).2) hKK hI.1 hS (hI.2.2.1 rfl) (by omega) (by omega) hdc (fun H1 z1 z2 z3 => ih _ _ _ _ _ _ h3 _ _ _ _ _ _ ⟨mj_I_new hI z1 (mj_new_cp ci) z2, z3, by omega, by omega, by rw [List.length_append]; simp; omega, hL, mj_St_1 (Or.inr ⟨rfl, by rw [← had2]; rfl⟩) hSt⟩)
    case newarray t =>
      obtain ⟨n1, t2, tg, ct, rfl, hn1, hty, rfl, h1, h2, h3⟩ := H
      obtain ⟨t', rfl, hSt⟩ := mj_St_i hSt
      have hln : h.length < mj_SC := by omega
      have had2 : E.2.1 h.length = E.1 + h.length := hK.2.2.2.2.2.2.2.2.2 _ hln
      obtain ⟨r, hr, hdc, rfl⟩ := mj_len_dc (fun _ => by simp) hw
      simp only [mj_cand] at hr
      cases List.mem_singleton.mp hr
      rcases hty with ⟨rfl, rfl, rfl⟩ | ⟨rfl, rfl, rfl⟩ | ⟨rfl, rfl, rfl⟩
      · exact mj_newa (t := 0) (ty := .int) hx hb (hts _ (mj_arr_in .int (by simp))) rfl rfl (fun _ q => by cases q) hKK hI.1 hS (hI.2.2.1 rfl) (fun cA => rfl) hn1 (by decide) (by omega) (by omega) hdc (fun H1 z1 z2 z3 => ih _ _ _ _ _ _ h3 _ _ _ _ _ _ ⟨mj_I_new hI z1 rfl z2, z3, by omega, by omega, by rw [List.length_append]; simp; omega, hL, mj_St_1 (Or.inr ⟨rfl, by rw [← had2]; rfl⟩) hSt⟩)
      · exact mj_newa (t := 1) (ty := .boolean) hx hb (hts _ (mj_arr_in .boolean (by simp))) rfl rfl (fun _ q => by cases q) hKK hI.1 hS (hI.2.2.1 rfl) (fun cA => rfl) hn1 (by decide) (by omega) (by omega) hdc (fun H1 z1 z2 z3 => ih _ _ _ _ _ _ h3 _ _ _ _ _ _ ⟨mj_I_new hI z1 rfl z2, z3, by omega, by omega, by rw [List.length_append]; simp; omega, hL, mj_St_1 (Or.inr ⟨rfl, by rw [← had2]; rfl⟩) hSt⟩)
      · exact mj_newa (t := 2) (ty := .long) hx hb (hts _ (mj_arr_in .long (by simp))) rfl rfl (fun _ q => by cases q) hKK hI.1 hS (hI.2.2.1 rfl) (fun cA => rfl) hn1 (by decide) (by omega) (by omega) hdc (fun H1 z1 z2 z3 => ih _ _ _ _ _ _ h3 _ _ _ _ _ _ ⟨mj_I_new hI z1 rfl z2, z3, by omega, by omega, by rw [List.length_append]; simp; omega, hL, mj_St_1 (Or.inr ⟨rfl, by rw [← had2]; rfl⟩) hSt⟩)
    case anewarray k =>
      obtain ⟨n1, t2, rfl, hn1, rfl, h1, h2, h3⟩ := H
      obtain ⟨t', rfl, hSt⟩ := mj_St_i hSt
      have hln : h.length < mj_SC := by omega
      have had2 : E.2.1 h.length = E.1 + h.length := hK.2.2.2.2.2.2.2.2.2 _ hln
      obtain ⟨r, hr, hdc, rfl⟩ := mj_len_dc (fun _ => by simp) hw
      simp only [mj_cand] at hr
      split at hr
      case isFalse => cases hr
      rename_i g
      obtain ⟨ix, g2, rfl⟩ := List.mem_map.mp hr
      exact mj_newq hx hb hown (hts _ (mj_G_of (mj_lkA_ok _ (mj_ix_mem g2)) rfl)) hK.1.2 hKK hI.1 hS (hI.2.2.1 rfl) hn1 (by omega) (by omega) hdc (fun H1 z1 z2 z3 => ih _ _ _ _ _ _ h3 _ _ _ _ _ _ ⟨mj_I_new hI z1 rfl z2, z3, by omega, by omega, by rw [List.length_append]; simp; omega, hL, mj_St_1 (Or.inr ⟨rfl, by rw [← had2]; rfl⟩) hSt⟩)
    case ireturn =>
      obtain ⟨x, rfl, h1⟩ := H
      obtain ⟨t', rfl, hSt⟩ := mj_St_i hSt
      cases mj_St_nil hSt
      obtain ⟨r, hr, hdc, rfl⟩ := mj_len_dc (fun _ => by simp) hw
      simp only [mj_cand] at hr
      split at hr
      case isFalse => cases hr
      rename_i g
      cases List.mem_singleton.mp hr
      refine vx_ret (W.widen (k := R.cells) (n := R.slots) (by omega) (by omega) ?_)
      rcases g with g | g
      · exact W.iret hx hb (hret.trans g) (fun t ht hW => ⟨⟨_, h, cl, h1, rfl, by rw [ht]; exact hI, by omega, fun v hv => by cases hv; rfl⟩, hS.F ht⟩) hS.2.2 hdc
      · exact W.zret hx hb (hret.trans g) (hzb x h cl h1 g) (fun t ht hW => ⟨⟨_, h, cl, h1, rfl, by rw [ht]; exact hI, by omega, fun v hv => by cases hv; rfl⟩, hS.F ht⟩) hS.2.2 hdc
    case lreturn =>
      obtain ⟨x, rfl, h1⟩ := H
      obtain ⟨t', rfl, hSt⟩ := mj_St_l hSt
      cases mj_St_nil hSt
      obtain ⟨r, hr, hdc, rfl⟩ := mj_len_dc (fun _ => by simp) hw
      simp only [mj_cand] at hr
      split at hr
      case isFalse => cases hr
      rename_i g
      cases List.mem_singleton.mp hr
      refine vx_ret (W.widen (k := R.cells) (n := R.slots) (by omega) (by omega) ?_)
      exact W.lret hx hb (hret.trans g) (fun t ht hW => ⟨⟨_, h, cl, h1, rfl, by rw [ht]; exact hI, by omega, fun v hv => by cases hv; rfl⟩, hS.F ht⟩) hS.2.2 hdc
    case return_ =>
      obtain ⟨rfl, h1⟩ := H
      cases mj_St_nil hSt
      obtain ⟨r, hr, hdc, rfl⟩ := mj_len_dc (fun _ => by simp) hw
      simp only [mj_cand] at hr
      split at hr
      case isFalse => cases hr
      rename_i g
      cases List.mem_singleton.mp hr
      refine vx_ret (W.widen (k := R.cells) (n := R.slots) (by omega) (by omega) ?_)
      exact W.vret hx hb (hret.trans g) (fun t ht hW => ⟨⟨_, h, cl, h1, rfl, by rw [ht]; exact hI, by omega, fun v hv => by cases hv; rfl⟩, hS.F ht⟩) hS.2.2 hdc
    case instanceof x =>
      obtain ⟨h1, h2, h3, h4⟩ := H
      exact mj_throw hx hb hml hown hts hK hlocks htab hthr hst (by omega) (by omega) hw hI hS hL.1 (by rw [mj_St_cat hSt]; exact h1) (by omega) (by omega) (by omega) h4
    case invokestatic k =>
      obtain ⟨as, rest, o, h', cl', dc, ds, rfl, hn1, hp1, hcat, hdc1, hds1, hRr, haf⟩ := H
      have hCon := hR _ _ _ _ _ _ _ _ _ hRr (h.length + dc) (Nat.le_refl _) (by omega)
      obtain ⟨z1, z2, rfl, hSt1, hSt2⟩ := mj_St_app hSt
      have hz1 : z1 = (as.map (mj_rl E.2.1)).reverse := by rw [mj_St_map (fun v hv => List.all_eq_true.mp hp1 v (List.mem_reverse.mp hv)) hSt1, List.map_reverse]
      subst hz1
      have hcat' : (z2.map fun v => v.category).sum ≤ 8 := by rw [mj_St_cat hSt2]; exact hcat
      obtain ⟨r, hr, hdc, rfl⟩ := mj_len_dc (fun _ => by simp) hw
      simp only [mj_cand] at hr
      split at hr
      case isFalse => cases hr
      rename_i g
      obtain ⟨ix, g2, rfl⟩ := List.mem_map.mp hr
      obtain ⟨e9, hm, hf⟩ := mj_kd_s kd0
      have hlnk := hts _ (mj_G_of (mj_lk_ok _ (mj_ix_mem g2)) rfl)
      rw [mj_yn_of g hm] at hlnk hCon
      refine mj_call (E := E) (cap := h.length + dc) (mj_run_s hx hb hml hown hts hm hf hlnk hCon hI hS hK hn1 hL.1 hcat' hdc hRf hRl (by omega) (by omega)) hS (fun x h1 cl1 ce q9 H1 locs1 hq hx5 hI1 hc1 hS1 hce hcv hcl => ?_) (fun r h1 cl1 H1 locs1 hq hI1 hc1 hS1 hrp => ?_)
      · obtain ⟨rfl, rfl, rfl⟩ := hq
        refine mj_catch hK hts hown hlocks htab hdx hk hx5 hce hcv hcl hI1 (by omega) hS1 (by omega) (by omega) ?_
        unfold mj_af at haf
        dsimp only at haf
        cases hf9 : mj_find (mj_hd j) pc x with
        | none => simp only [hf9] at haf; exact haf
        | some t9 => simp only [hf9] at haf; exact haf _ _ _ _ _ _ ⟨hI1, hS1, by omega, by omega, by omega, hL, ⟨Or.inl ⟨rfl, _, rfl⟩, trivial⟩⟩
      · obtain ⟨rfl, rfl, rfl⟩ := hq
        unfold mj_af at haf
        cases r with
        | none => exact ih _ _ _ _ _ _ haf _ _ _ _ _ _ ⟨hI1, hS1, by omega, by omega, by omega, hL, hSt2⟩
        | some v => exact ih _ _ _ _ _ _ haf _ _ _ _ _ _ ⟨hI1, hS1, by omega, by omega, by omega, hL, mj_St_1 (mj_V_of (hrp v rfl)) hSt2⟩
    case invokevirtual k =>
      obtain ⟨a, as, rest, fs, o, h', cl', dc, ds, rfl, hn1, hp1, ha1, hcat, hdc1, hds1, hRr, haf⟩ := H
      have hCon := hR _ _ _ _ _ _ _ _ _ hRr (h.length + dc) (Nat.le_refl _) (by omega)
      obtain ⟨z1, z2, rfl, hSt1, hSt2⟩ := mj_St_app hSt
      have hz1 : z1 = (as.map (mj_rl E.2.1)).reverse := by rw [mj_St_map (fun v hv => List.all_eq_true.mp hp1 v (List.mem_reverse.mp hv)) hSt1, List.map_reverse]
      subst hz1
      obtain ⟨z2, rfl, hSt2⟩ := mj_St_r hSt2
      have hcat' : (z2.map fun v => v.category).sum ≤ 8 := by rw [mj_St_cat hSt2]; exact hcat
      obtain ⟨r, hr, hdc, rfl⟩ := mj_len_dc (fun _ => by simp) hw
      simp only [mj_cand] at hr
      split at hr
      case isFalse => cases hr
      rename_i g
      obtain ⟨ix, g2, rfl⟩ := List.mem_map.mp hr
      obtain ⟨e9, hm, hf⟩ := mj_kd_v kd0
      have hlnk := hts _ (mj_G_of (mj_lk_ok _ (mj_ix_mem g2)) rfl)
      rw [mj_yn_of g hm] at hlnk hCon
      refine mj_call (E := E) (cap := h.length + dc) (mj_run_v hx hb hml hown hts hm hf hlnk hCon hI hS hK hn1 ha1 (had _ _ ha1 hcp) hL.1 hcat' hdc hRf hRl (by omega) (by omega)) hS (fun x h1 cl1 ce q9 H1 locs1 hq hx5 hI1 hc1 hS1 hce hcv hcl => ?_) (fun r h1 cl1 H1 locs1 hq hI1 hc1 hS1 hrp => ?_)
      · obtain ⟨rfl, rfl, rfl⟩ := hq
        refine mj_catch hK hts hown hlocks htab hdx hk hx5 hce hcv hcl hI1 (by omega) hS1 (by omega) (by omega) ?_
        unfold mj_af at haf
        dsimp only at haf
        cases hf9 : mj_find (mj_hd j) pc x with
        | none => simp only [hf9] at haf; exact haf
        | some t9 => simp only [hf9] at haf; exact haf _ _ _ _ _ _ ⟨hI1, hS1, by omega, by omega, by omega, hL, ⟨Or.inl ⟨rfl, _, rfl⟩, trivial⟩⟩
      · obtain ⟨rfl, rfl, rfl⟩ := hq
        unfold mj_af at haf
        cases r with
        | none => exact ih _ _ _ _ _ _ haf _ _ _ _ _ _ ⟨hI1, hS1, by omega, by omega, by omega, hL, hSt2⟩
        | some v => exact ih _ _ _ _ _ _ haf _ _ _ _ _ _ ⟨hI1, hS1, by omega, by omega, by omega, hL, mj_St_1 (mj_V_of (hrp v rfl)) hSt2⟩
    case invokespecial k =>
      obtain ⟨a, rest, o, h', cl', dc, ds, rfl, hcat, hdc1, hds1, hRr, haf⟩ := H
      have hCon := hR _ _ _ _ _ _ _ _ _ hRr (h.length + dc) (Nat.le_refl _) (by omega)
      obtain ⟨z2, rfl, hSt2⟩ := mj_St_r hSt
      have hcat' : (z2.map fun v => v.category).sum ≤ 8 := by rw [mj_St_cat hSt2]; exact hcat
      obtain ⟨r, hr, hdc, hw9⟩ := mj_len_dc (fun _ => by simp) hw
      simp only [mj_cand] at hr
      split at hr
      case isFalse => cases hr
      rename_i g
      obtain ⟨e9, hm, hf, hk0⟩ := mj_kd_i kd0
      have hrun : vx_Run p l e R s m args below meth c H0 locs cells slots dc ds (F0 m pc ls' (.ref (E.2.1 a) :: z2)) z2 (mj_Qc E (fun o1 h1 cl1 => o1 = o ∧ h1 = h' ∧ cl1 = cl') (h.length + dc) #[.ref (E.2.1 a)]) (mj_Xc E (fun o1 h1 cl1 => o1 = o ∧ h1 = h' ∧ cl1 = cl') (h.length + dc)) (mj_A E) := by
        rw [mj_yn_of g hm] at hCon
        rcases List.mem_append.mp hr with hr | hr
        · obtain ⟨ix, g2, rfl⟩ := List.mem_map.mp hr
          have hlnk := hts _ (mj_G_of (mj_lk_ok _ (mj_ix_mem g2)) rfl)
          rw [mj_yn_of g hm] at hlnk
          exact mj_run_i hx hb hml hown hts hm hf hlnk hCon hI hS hK hk0 hL.1 hcat' hdc hRf hRl (by omega) (by omega)
        · obtain ⟨ix, g2, rfl⟩ := List.mem_map.mp hr
          have hlnk := hK.2.2.1 _ (mj_lkN_in _ (mj_ix_mem g2))
          rw [mj_yn_of g hm] at hlnk
          exact mj_run_in hx hb hml hown hts hm hf hlnk hCon hI hS hK hk0 hL.1 hcat' hdc hRf hRl (by omega) (by omega)
      have hw3 : w = 3 := by
        rw [hw9]
        rcases List.mem_append.mp hr with hr | hr <;> (obtain ⟨ix, g2, rfl⟩ := List.mem_map.mp hr; rfl)
      subst hw3
      refine mj_call (E := E) (cap := h.length + dc) hrun hS (fun x h1 cl1 ce q9 H1 locs1 hq hx5 hI1 hc1 hS1 hce hcv hcl => ?_) (fun r h1 cl1 H1 locs1 hq hI1 hc1 hS1 hrp => ?_)
      · obtain ⟨rfl, rfl, rfl⟩ := hq
        refine mj_catch hK hts hown hlocks htab hdx hk hx5 hce hcv hcl hI1 (by omega) hS1 (by omega) (by omega) ?_
        unfold mj_af at haf
        dsimp only at haf
        cases hf9 : mj_find (mj_hd j) pc x with
        | none => simp only [hf9] at haf; exact haf
        | some t9 => simp only [hf9] at haf; exact haf _ _ _ _ _ _ ⟨hI1, hS1, by omega, by omega, by omega, hL, ⟨Or.inl ⟨rfl, _, rfl⟩, trivial⟩⟩
      · obtain ⟨rfl, rfl, rfl⟩ := hq
        unfold mj_af at haf
        cases r with
        | none => exact ih _ _ _ _ _ _ haf _ _ _ _ _ _ ⟨hI1, hS1, by omega, by omega, by omega, hL, hSt2⟩
        | some v => exact ih _ _ _ _ _ _ haf _ _ _ _ _ _ ⟨hI1, hS1, by omega, by omega, by omega, hL, mj_St_1 (mj_V_of (hrp v rfl)) hSt2⟩
    case pop2 =>
      obtain ⟨a, t, rfl, hcat, h2⟩ := H
      obtain ⟨t', rfl, hSt⟩ := mj_St_r hSt
      obtain ⟨r, hr, hdc, rfl⟩ := mj_len_dc (fun _ => by simp) hw
      simp only [mj_cand] at hr
      obtain ⟨ix, g2, rfl⟩ := List.mem_map.mp hr
      exact W.objInit hx hb hown (hts _ (mj_G_of (mj_lk_ok _ (mj_ix_mem g2)) rfl)) (hts _ mj_obj_in.1) (hts _ mj_obj_in.2) rfl (by rw [hml]; exact hL.1) rfl hdc (by omega) (by have := mj_St_cat hSt; show 2 * 0 + _ + _ ≤ _; omega) (ih _ _ _ _ _ _ h2 _ _ _ _ _ _ ⟨hI, hS, hc, hs, hcp, hL, hSt⟩)
    case dup_x1 =>
      obtain ⟨x, y, t, rfl, hcat, h2⟩ := H
      obtain ⟨t', rfl, hSt⟩ := mj_St_i hSt
      obtain ⟨t', rfl, hSt⟩ := mj_St_i hSt
      obtain ⟨r, hr, hdc, rfl⟩ := mj_len_dc (fun _ => by simp) hw
      simp only [mj_cand] at hr
      obtain ⟨ix, g2, rfl⟩ := List.mem_map.mp hr
      exact va_mmax hx hb (by rw [hml]; exact hL.1.symm) hown (hts _ (mj_G_of (mj_lk_ok _ (mj_ix_mem g2)) rfl)) (hts _ mj_max_in.1) (hts _ mj_max_in.2.1) (hts _ mj_max_in.2.2) (by omega) (by have := mj_St_cat hSt; omega) (by omega) (by omega) hdc (ih _ _ _ _ _ _ h2 _ _ _ _ _ _ ⟨hI, hS, hc, hs, hcp, hL, mj_St_1 (mj_V_of rfl) hSt⟩)
    case dup_x2 =>
      obtain ⟨x, y, t, rfl, hcat, h2⟩ := H
      obtain ⟨t', rfl, hSt⟩ := mj_St_i hSt
      obtain ⟨t', rfl, hSt⟩ := mj_St_i hSt
      obtain ⟨r, hr, hdc, rfl⟩ := mj_len_dc (fun _ => by simp) hw
      simp only [mj_cand] at hr
      obtain ⟨ix, g2, rfl⟩ := List.mem_map.mp hr
      exact va_mmin hx hb (by rw [hml]; exact hL.1.symm) hown (hts _ (mj_G_of (mj_lk_ok _ (mj_ix_mem g2)) rfl)) (hts _ mj_min_in.1) (hts _ mj_min_in.2.1) (hts _ mj_min_in.2.2) (by omega) (by have := mj_St_cat hSt; omega) (by omega) (by omega) hdc (ih _ _ _ _ _ _ h2 _ _ _ _ _ _ ⟨hI, hS, hc, hs, hcp, hL, mj_St_1 (mj_V_of rfl) hSt⟩)
    case dup2_x1 =>
      obtain ⟨n2, dp, a, sp, b, t, n0, n1, f, g, rfl, ha0, ha1, h1, h2, h3, h4, h5, hcat, h6⟩ := H
      obtain ⟨t', rfl, hSt⟩ := mj_St_i hSt
      obtain ⟨t', rfl, hSt⟩ := mj_St_i hSt
      obtain ⟨t', rfl, hSt⟩ := mj_St_r hSt
      obtain ⟨t', rfl, hSt⟩ := mj_St_i hSt
      obtain ⟨t', rfl, hSt⟩ := mj_St_r hSt
      obtain ⟨r, hr, hdc, rfl⟩ := mj_len_dc (fun _ => by simp) hw
      simp only [mj_cand] at hr
      obtain ⟨ix, g2, rfl⟩ := List.mem_map.mp hr
      rw [had _ _ ha0 hcp, had _ _ ha1 hcp]
      exact mj_copy hx hb (by rw [hml]; exact hL.1.symm) hown (hts _ (mj_G_of (mj_lk_ok _ (mj_ix_mem g2)) rfl)) (hts _ mj_cpy_in.1) (hts _ mj_cpy_in.2.1) (hts _ mj_cpy_in.2.2) hKK hI.1 hS ha0 ha1 h1 h2 h3 h4 h5 (by omega) (by have := mj_St_cat hSt; have := mj_nfw; omega) hdc (fun H1 locs1 z1 z2 z3 => ih _ _ _ _ _ _ h6 _ _ _ _ _ _ ⟨mj_I_set hI z1 rfl z2, z3, hc, hs, by rw [List.length_set]; exact hcp, hL, hSt⟩)
    case dup2_x2 =>
      obtain ⟨k, t, rfl, hk1, hcat, h2⟩ := H
      obtain ⟨t', rfl, hSt⟩ := mj_St_r hSt
      obtain ⟨r, hr, hdc, rfl⟩ := mj_len_dc (fun _ => by simp) hw
      simp only [mj_cand] at hr
      obtain ⟨ix, g2, rfl⟩ := List.mem_map.mp hr
      exact mj_strlen hx hb hml hown hts hK hS hL.1 (mj_tx_lt hk1) (mj_ix_mem g2) (by rw [mj_St_cat hSt]; exact hcat) hdc hRf hRl (by omega) (by omega) (ih _ _ _ _ _ _ h2 _ _ _ _ _ _ ⟨hI, hS, hc, hs, hcp, hL, mj_St_1 (mj_V_of rfl) hSt⟩)
    case swap =>
      obtain ⟨k, k2, t, rfl, hk1, hcat, h2⟩ := H
      obtain ⟨t', rfl, hSt⟩ := mj_St_i hSt
      obtain ⟨t', rfl, hSt⟩ := mj_St_r hSt
      obtain ⟨r, hr, hdc, rfl⟩ := mj_len_dc (fun _ => by simp) hw
      simp only [mj_cand] at hr
      obtain ⟨ix, g2, rfl⟩ := List.mem_map.mp hr
      exact mj_strchar hx hb hml hown hts hK hS hL.1 (mj_tx_lt (fun q => by rw [q] at hk1; exact absurd hk1 (Nat.not_lt_zero _))) hk1 (mj_ix_mem g2) (by rw [mj_St_cat hSt]; exact hcat) hdc hRf hRl (by omega) (by omega) (ih _ _ _ _ _ _ h2 _ _ _ _ _ _ ⟨hI, hS, hc, hs, hcp, hL, mj_St_1 (mj_V_of rfl) hSt⟩)
    all_goals exact H.elim
end MJM
