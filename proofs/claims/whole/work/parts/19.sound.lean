/-! ===== soundness: what the small machine does, the machine does ===== -/
def mj_zok (j : Nat) (o : mj_O) : Prop := mj_zb j = 1 → ∀ x, o = .inl (some (.int x)) → x = 0 ∨ x = 1
/-- a method's run: calls at most d deep -/
noncomputable def mj_rn (sc : Nat × (Nat → Int32)) : Nat → mj_R
  | 0 => fun _ _ _ _ _ _ _ _ _ => False
  | d + 1 => fun j as h cl dc ds o h' cl' => as.length ≤ mj_nl j ∧ as.all mj_pl = true ∧ (∀ v ∈ as, v.category = 1) ∧ mj_zok j o ∧ mj_w sc mj_tx mj_na (mj_rn sc d) (mj_hd j) (mj_bl j) (fun o1 h1 cl1 => o1 = o ∧ h1 = h' ∧ cl1 = cl') 0 (as ++ List.replicate (mj_nl j - as.length) mj_U) [] h cl dc ds
theorem mj_rn_mono1 {sc : Nat × (Nat → Int32)} : ∀ (d : Nat) (j : Nat) (as : List Value) (h : mj_H) (cl : Bool) (dc ds : Nat) (o : mj_O) (h' : mj_H) (cl' : Bool), mj_rn sc d j as h cl dc ds o h' cl' → mj_rn sc (d + 1) j as h cl dc ds o h' cl' := by
  intro d
  induction d with
  | zero => intro j as h cl dc ds o h' cl' H; exact H.elim
  | succ d ih =>
    intro j as h cl dc ds o h' cl' H
    exact ⟨H.1, H.2.1, H.2.2.1, H.2.2.2.1, mj_w_mono ih (fun _ _ _ k => k) H.2.2.2.2⟩
theorem mj_rn_mono {sc : Nat × (Nat → Int32)} {d e : Nat} (hde : d ≤ e) {j : Nat} {as : List Value} {h : mj_H} {cl : Bool} {dc ds : Nat} {o : mj_O} {h' : mj_H} {cl' : Bool} (H : mj_rn sc d j as h cl dc ds o h' cl') : mj_rn sc e j as h cl dc ds o h' cl' := by
  obtain ⟨k, rfl⟩ := Nat.exists_eq_add_of_le hde
  clear hde
  induction k with
  | zero => exact H
  | succ k ih => exact mj_rn_mono1 _ _ _ _ _ _ _ _ _ _ ih
theorem mj_mt_1024 : ∀ c, c < 10 → ∀ q ∈ mj_mt c, 1024 ≤ q.1 := by decide +kernel
theorem mj_m_1024 {k : Nat} {e : MethodName × ByteArray × Option FieldType × Bool × Nat × Nat} (hm : mj_m k = some e) : 1024 ≤ k := by
  have h1 := mj_lookup_mem hm
  by_cases q : k / 131072 / 40 < 10
  · exact mj_mt_1024 _ q _ h1
  · rw [mj_mt_ge (by omega)] at h1
    exact mj_mt_1024 9 (by decide) _ h1
theorem mj_hh_ok (j : Nat) (hf : ∀ q, (j, q) ∈ mj_hhs → True) : mj_hd j = (mj_hh j).map (fun e => (e.1, e.2.1, e.2.2.1, mj_hx e.2.2.2)) ∧ ∀ e ∈ mj_hh j, e.2.2.2 ≠ 0 ∧ mj_hx e.2.2.2 < 5 ∧ Cond.classLink RL e.2.2.2 (mj_xn (mj_hx e.2.2.2)) ∈ mj_G := by
  cases hl : mj_hhs.lookup j with
  | none =>
    have e1 : mj_hh j = [] := by unfold mj_hh; rw [hl]; rfl
    have e2 : mj_hd j = [] := by
      unfold mj_hd
      cases hl2 : mj_hds.lookup j with
      | none => rfl
      | some z =>
        have h1 : j ∈ mj_hds.map (fun q => q.1) := List.mem_map.mpr ⟨_, mj_lookup_mem hl2, rfl⟩
        rw [mj_hh_hd0] at h1
        obtain ⟨q, h2, h3⟩ := List.mem_map.mp h1
        exfalso
        have : ∀ (l : List (Nat × List (Nat × Nat × Nat × Nat))) (q : Nat × List (Nat × Nat × Nat × Nat)), q ∈ l → l.lookup q.1 ≠ none := by
          intro l
          induction l with
          | nil => intro q h; cases h
          | cons a l ih =>
            intro q h
            rw [List.lookup_cons]
            by_cases g : (q.1 == a.1) = true
            · rw [g]; intro z; cases z
            · have g2 : (q.1 == a.1) = false := by simpa using g
              rw [g2]
              rcases List.mem_cons.mp h with rfl | h
              · exact absurd (beq_self_eq_true q.1) g
              · exact ih q h
        exact this _ _ h2 (by rw [h3]; exact hl)
    rw [e1, e2]
    exact ⟨rfl, fun e he => by cases he⟩
  | some z =>
    have e1 : mj_hh j = z := by unfold mj_hh; rw [hl]; rfl
    have hm := mj_lookup_mem hl
    obtain ⟨h1, h2⟩ := mj_hh_hd (j, z) hm
    rw [e1]
    refine ⟨h1, fun e he => ?_⟩
    have h3 := h2 e he
    exact ⟨(mj_hx_ok _ h3).1, (show ∀ k ∈ _, mj_hx k < 5 by decide +kernel) _ h3, mj_G_of (mj_hx_ok _ h3).2 rfl⟩
theorem mj_hh_own : ∀ q ∈ mj_hhs, q.1 / 32 % 32 = 13 := by decide +kernel
theorem mj_hh_own' {j : Nat} (h : mj_hh j ≠ []) : j / 32 % 32 = 13 := by
  unfold mj_hh at h
  cases hl : mj_hhs.lookup j with
  | none => rw [hl] at h; exact absurd rfl h
  | some z => exact mj_hh_own _ (mj_lookup_mem hl)
theorem mj_zbx {x : Int32} (h : x = 0 ∨ x = 1) : narrow .boolean (.int x) = .int x := by
  rcases h with rfl | rfl <;> rfl
section MJW
variable {l : Launch} {E : mj_E} {sc : Nat × (Nat → Int32)} {sx sv : Nat → Nat}
theorem mj_frame {p : Program} {e : Env} {R : Room} {s : State} {m : MethodId} {args : Array Value} {below : List Frame} {meth : Method} {c : Code} {d j cap : Nat} {e9 : MethodName × ByteArray × Option FieldType × Bool × Nat × Nat} {Q : mj_Q} {as : List Value} {h : mj_H} {cl : Bool} {dc ds : Nat}
    (hm : mj_m j = some e9) (hlen : as.length ≤ mj_nl j) (hpl : as.all mj_pl = true) (hcat : ∀ v ∈ as, v.category = 1)
    (C : mj_Ctx p l R s m args meth c E sc sx sv (mj_nl j) cap d j (j / 32 % 32) e9.2.1 e9.2.2.1 (decide (e9.2.2.2.2.1 = 2)) (mj_rn sc d) Q)
    (hI : mj_I E h cl s.heap) (hcp : h.length + dc ≤ cap) (hc : dc ≤ R.cells) (hs : ds ≤ R.slots)
    (hw : mj_w sc mj_tx mj_na (mj_rn sc d) (mj_hd j) (mj_bl j) Q 0 (as ++ List.replicate (mj_nl j - as.length) mj_U) [] h cl dc ds) :
    W p l e R s m args below meth c s.heap [] 0 0 (vx_MQ below (mj_Qc E Q cap) (mj_Xc E Q cap) args s R.cells R.slots (mj_A E)) (entryFrame m (as.map (mj_rl E.2.1)).toArray (mj_nl j)) := by
  have K := hw (mj_JZ p l e R s m args below meth c E (mj_nl j) cap Q) (fun pc ls st h cl rc rs b hb H => mj_snd C b.1 pc b.2 ls st h cl rc rs H (mj_m_ck hm hb) (mj_bl_kd hb))
  rw [lg_entry_eq]
  exact K s.heap [] 0 0 _ [] ⟨hI, va_S.rf, by omega, by omega, hcp, mj_L_entry hlen hpl hcat, trivial⟩
theorem mj_sound (hst : l.stackTraces = false) : ∀ (d j : Nat) (as : List Value) (h : mj_H) (cl : Bool) (dc ds : Nat) (o : mj_O) (h' : mj_H) (cl' : Bool), (∃ e, mj_m j = some e ∧ mj_facts j e.1 e.2.1 e.2.2.1 e.2.2.2.2.1) → mj_rn sc d j as h cl dc ds o h' cl' → mj_Con l E sc sx sv d j as h cl dc ds o h' cl' := by
  intro d
  induction d with
  | zero => intro j as h cl dc ds o h' cl' _ H; exact H.elim
  | succ d ih =>
    intro j as h cl dc ds o h' cl' hj H
    obtain ⟨e9, hm, hf⟩ := hj
    obtain ⟨hlen, hpl, hcat, hz, hw⟩ := H
    intro cap hcp hcap
    have hyn := mj_yn_of (mj_m_1024 hm) hm
    rw [hyn]
    have h45 := mj_nl_45 hm
    obtain ⟨q1, q2⟩ := mj_hh_ok j (fun _ _ => trivial)
    have zb : ∀ x h cl, ((.inl (some (.int x)) : mj_O) = o ∧ h = h' ∧ cl = cl') → e9.2.2.1 = some .boolean → narrow .boolean (.int x) = .int x := by
      intro x h cl hq hb
      exact mj_zbx (hz (hf.2.2.2.2.2.2.2.mpr hb) x hq.1.symm)
    have hk : ∀ e ∈ mj_hh j, j / 32 % 32 = 13 ∧ e.2.2.2 ≠ 0 ∧ mj_hx e.2.2.2 < 5 ∧ Cond.classLink (mj_cn (j / 32 % 32)) e.2.2.2 (mj_xn (mj_hx e.2.2.2)) ∈ mj_G := by
      intro e he
      have h13 : j / 32 % 32 = 13 := mj_hh_own' (fun z => by rw [z] at he; cases he)
      rw [h13]
      exact ⟨rfl, q2 e he⟩
    by_cases hh : mj_hh j = []
    · obtain ⟨w1, w2⟩ := mj_wj_code hm hf hh
      rw [w1]
      refine vx_ofW (cc := e9.2.1) (maxL := mj_nl j) (ret := e9.2.2.1) hf.1.2.1 rfl ?_
      intro p e s m args below meth c s₁ B hml htb hP
      obtain ⟨rfl, hI, hK⟩ := hP
      have hts := mj_atoms (atoms_spec (ws := Cond.code e9.1 e9.2.1 (mj_nl j) e9.2.2.1 :: mj_G) B.pre)
      have hown : s.vm.findClass (mj_cn (j / 32 % 32)) = some m.cls := by
        rw [← hf.1.2.2.1]
        exact findClass_of_methodNamed B.named
      have htab : c.exceptionTable.toList = tableOf (mj_hh j) := by
        rw [hh]
        exact List.eq_nil_iff_forall_not_mem.mpr htb
      exact mj_frame (R := mj_rm (d + 1) dc ds) hm hlen hpl hcat ⟨B.exec, B.bytes, hml, hown, hts, hK, B.notSynchronized, B.returns, fun hi => by
          rw [(name_of_methodNamed B.named B.method).1]
          exact (hf.2.2.2.2.2.2.1 (of_decide_eq_true hi)).1, ⟨htab, q1, hk, fun z => absurd hh z⟩, hst, Nat.le_refl (d + 9), Nat.le_refl _, h45, hcap, ih, zb⟩ hI hcp (Nat.le_refl _) (Nat.le_refl _) hw
    · obtain ⟨w1, w2⟩ := mj_wj_with hm hf hh
      rw [w1]
      refine vx_ofWH (hh := mj_hh j) (cc := e9.2.1) (maxL := mj_nl j) (ret := e9.2.2.1) hf.1.2.1 rfl ?_
      intro p e s m args below meth c s₁ B hml hP
      obtain ⟨rfl, hI, hK⟩ := hP
      have hts0 := atoms_spec (ws := Cond.codeWith e9.1 e9.2.1 (mj_nl j) e9.2.2.1 (mj_hh j) :: mj_G) B.pre
      have hts := mj_atoms hts0
      have hown : s.vm.findClass (mj_cn (j / 32 % 32)) = some m.cls := by
        rw [← hf.1.2.2.1]
        exact findClass_of_methodNamed B.named
      have htab : c.exceptionTable.toList = tableOf (mj_hh j) := vx_table (x := e9.1) B (hts0 _ List.mem_cons_self)
      exact mj_frame (R := mj_rm (d + 1) dc ds) hm hlen hpl hcat ⟨B.exec, B.bytes, hml, hown, hts, hK, B.notSynchronized, B.returns, fun hi => by
          rw [(name_of_methodNamed B.named B.method).1]
          exact (hf.2.2.2.2.2.2.1 (of_decide_eq_true hi)).1, ⟨htab, q1, hk, fun _ => mj_hh_own' hh⟩, hst, Nat.le_refl (d + 9), Nat.le_refl _, h45, hcap, ih, zb⟩ hI hcp (Nat.le_refl _) (Nat.le_refl _) hw
end MJW
