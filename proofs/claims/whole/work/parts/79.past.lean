/-! ===== what is remembered ===== -/
section
variable {s t : lf_S} {a e : Nat → Nat} {q : Nat}
theorem oz_C_fr (V : oz_V a) (C : oz_C s q a) (h : ∀ p, q ≤ p → p < q + 24 → t.1 p = s.1 p) : oz_C t q a :=
  ⟨oz_C0_cg C.1 (h q (by omega) (by omega)) rfl oz_eqr_rf rfl, oz_CB_cg V C.2.1 (fun p h1 h2 => h p (by omega) (by omega)) rfl oz_eqr_rf, oz_CK_cg V C.2.2.1 (fun p h1 h2 => h p (by omega) (by omega)) rfl oz_eqr_rf, oz_CH_cg V C.2.2.2.1 (fun p h1 h2 => h p (by omega) (by omega)) rfl oz_eqr_rf, oz_CO_cg V C.2.2.2.2.1 (fun p h1 h2 => h p (by omega) (by omega)) rfl oz_eqr_rf, oz_CL_cg V C.2.2.2.2.2.1 (fun p h1 h2 => h p (by omega) (by omega)) rfl oz_eqr_rf, oz_CS_cg C.2.2.2.2.2.2 (h (q + 23) (by omega) (by omega)) oz_eqr_rf⟩
theorem oz_C_al (V : oz_V a) (C : oz_C s q a) (h : ∀ i, i < 366 → e i = a i) : oz_C s q e :=
  ⟨oz_C0_cg C.1 rfl (h 0 (by omega)) (fun i _ h2 => h i (by omega)) (h 12 (by omega)), oz_CB_cg V C.2.1 (fun _ _ _ => rfl) (h 3 (by omega)) (fun i _ h2 => h i (by omega)), oz_CK_cg V C.2.2.1 (fun _ _ _ => rfl) (h 4 (by omega)) (fun i _ h2 => h i (by omega)), oz_CH_cg V C.2.2.2.1 (fun _ _ _ => rfl) (h 5 (by omega)) (fun i _ h2 => h i (by omega)), oz_CO_cg V C.2.2.2.2.1 (fun _ _ _ => rfl) (h 6 (by omega)) (fun i _ h2 => h i (by omega)), oz_CL_cg V C.2.2.2.2.2.1 (fun _ _ _ => rfl) (h 11 (by omega)) (fun i _ h2 => h i (by omega)), oz_CS_cg C.2.2.2.2.2.2 rfl (fun i _ h2 => h i (by omega))⟩
theorem oz_V_al (V : oz_V a) (h : ∀ i, i < 366 → e i = a i) : oz_V e := by
  refine oz_V_mk ?_ (oz_VB_cg V (h 3 (by omega)) (fun i _ h2 => h i (by omega))) (oz_VK_cg V (h 4 (by omega)) (fun i _ h2 => h i (by omega))) (oz_VH_cg V (h 5 (by omega)) (fun i _ h2 => h i (by omega))) (oz_VO_cg V (h 4 (by omega)) (h 6 (by omega)) (fun i _ h2 => h i (by omega))) (oz_VS_cg V (fun i _ h2 => h i (by omega))) (oz_VL_cg V (fun i _ h2 => h i (by omega)))
  have V0 := oz_v0 V
  unfold oz_V0 at V0 ⊢
  rw [h 0 (by omega), h 3 (by omega), h 4 (by omega), h 5 (by omega), h 6 (by omega), h 7 (by omega), h 8 (by omega), h 9 (by omega), h 10 (by omega), h 11 (by omega), h 12 (by omega)]
  exact V0
end
def oz_PC (s : lf_S) (n o : Nat) (E : Nat → Nat → Nat) : Prop := n ≤ 12 ∧ o < 12 ∧ s.1 0 10 = nI n ∧ s.1 0 9 = nI o ∧ ∀ i, i < n → oz_C s (101 + 24 * ((o + i) % 12)) (E i)
def oz_PM (s : lf_S) (n : Nat) (E : Nat → Nat → Nat) : Prop := n ≤ 12 ∧ s.1 389 6 = nI n ∧ ∀ i j, i < n → j < 366 → s.1 393 (366 * i + j) = nI (E i j)
def oz_pn (n : Nat) : Nat := if n = 12 then 12 else n + 1
def oz_pE (E : Nat → Nat → Nat) (n : Nat) (a : Nat → Nat) (i : Nat) : Nat → Nat := if n = 12 then (if i = 11 then a else E (i + 1)) else (if i = n then a else E i)
section
variable {s : lf_S} {a : Nat → Nat} {n o : Nat} {E : Nat → Nat → Nat}
theorem oz_h01 {q : Nat} (V : oz_V a) (C : oz_C s q a) : s.1 q 11 = nI 0 ∨ s.1 q 11 = nI 1 := by
  have hv := oz_v0 V
  unfold oz_V0 at hv
  have h := C.1.2.2.2.2.2
  by_cases c : a 10 = 0
  · rw [c] at h; exact Or.inl h
  · rw [show a 10 = 1 by omega] at h; exact Or.inr h
theorem c_remember (V : oz_V a) (C : oz_C s 10 a) (hE : ∀ i, i < n → oz_V (E i)) (P : oz_PC s n o E) : ∃ t o', f_Main_remember s = some t ∧ oz_PC t (oz_pn n) o' (oz_pE E n a) ∧ oz_fr (fun p => p = 0 ∨ (101 ≤ p ∧ p < 389)) s t ∧ ∀ j, j ≠ 9 → j ≠ 10 → t.1 0 j = s.1 0 j := by
  obtain ⟨p1, p2, p3, p4, p5⟩ := P
  have core : ∀ (u : lf_S) (o' n' : Nat) (E' : Nat → Nat → Nat), (∀ p, p ≠ 0 → u.1 p = s.1 p) → u.2 = s.2 → (∀ j, j ≠ 9 → j ≠ 10 → u.1 0 j = s.1 0 j) → o' < 12 → n' < 12 → u.1 0 9 = nI o' → u.1 0 10 = nI n' → (∀ i, i < n' → oz_V (E' i) ∧ oz_C s (101 + 24 * ((o' + i) % 12)) (E' i)) → ∃ t, lf_ck ((nI o' + nI n') % nI 12) 12 (fun k1 => (f_Holt_copy (101 + 24 * k1) 10 u).bind (fun p2 => lf_lt (lf_w p2 0 10 ((p2.1 0 10) + nI 1)) (fun s3 => some s3))) = some t ∧ oz_PC t (n' + 1) o' (fun i => if i = n' then a else E' i) ∧ oz_fr (fun p => p = 0 ∨ (101 ≤ p ∧ p < 389)) s t ∧ ∀ j, j ≠ 9 → j ≠ 10 → t.1 0 j = s.1 0 j := by
    intro u o' n' E' hu hu2 hu0 ho hn h9 h10 hE'
    have Cu : oz_C u 10 a := oz_C_fr V C (fun p h1 h2 => hu p (by omega))
    obtain ⟨t, k1, k2, k3⟩ := c_copy (s := u) (q := 101 + 24 * ((o' + n') % 12)) (r := 10) (by omega) (oz_h01 V Cu)
    have Ct := k3 a V Cu
    have hf : oz_fr (fun p => p = 0 ∨ (101 ≤ p ∧ p < 389)) s (lf_w t 0 10 (nI (n' + 1))) := by
      refine oz_fr_tr ⟨fun p hp => hu p (by omega), hu2⟩ (oz_fr_tr (oz_fr_mono k2 (by omega)) (oz_fr_w (by omega)))
    refine ⟨lf_w t 0 10 (nI (n' + 1)), ?_, ⟨by omega, ho, oz_w_s, ?_, fun i hi => ?_⟩, hf, fun j h1 h2 => ?_⟩
    · rw [nI_add, oz_mod (by omega) (by omega) (by omega), oz_ck (by omega) (by omega), k1, Option.bind_some]
      simp only [lf_lt]
      rw [k2.1 0 (by omega), h10, nI_add]
    · rw [oz_w_n (by omega), k2.1 0 (by omega)]; exact h9
    · show oz_C _ (101 + 24 * ((o' + i) % 12)) (if i = n' then a else E' i)
      by_cases c : i = n'
      · rw [if_pos c, c]
        exact oz_C_fr V Ct (fun p h1 h2 => oz_w_o (by omega))
      · rw [if_neg c]
        have hh := hE' i (by omega)
        refine oz_C_fr hh.1 hh.2 (fun p h1 h2 => ?_)
        rw [oz_w_o (by omega), k2.1 p (by omega), hu p (by omega)]
    · rw [oz_w_n h2, k2.1 0 (by omega)]; exact hu0 j h1 h2
  unfold f_Main_remember
  rw [p3, p4, pl_12, pl_1]
  by_cases c : n = 12
  · subst c
    obtain ⟨t, k1, k2, k3, k4⟩ := core (lf_w (lf_w s 0 9 (nI ((o + 1) % 12))) 0 10 (nI 11)) ((o + 1) % 12) 11 (fun i => E (i + 1)) (fun p hp => by rw [oz_w_o hp, oz_w_o hp]) rfl (fun j h1 h2 => by rw [oz_w_n h2, oz_w_n h1]) (by omega) (by omega) (by rw [oz_w_n (by omega)]; exact oz_w_s) oz_w_s (fun i hi => ⟨hE (i + 1) (by omega), by
      have := p5 (i + 1) (by omega)
      rw [show (o + (i + 1)) % 12 = ((o + 1) % 12 + i) % 12 by omega] at this
      exact this⟩)
    refine ⟨t, (o + 1) % 12, ?_, ?_, k3, k4⟩
    · rw [if_pos rfl, nI_add, oz_mod (by omega) (by omega) (by omega)]
      simp only [lf_lt]
      have e1 : (lf_w s 0 9 (nI ((o + 1) % 12))).1 0 10 = nI 12 := (oz_w_n (by omega)).trans p3
      rw [e1, oz_sub (by omega), oz_w_n (by omega), oz_w_s, oz_w_s]
      exact k1
    · have e : oz_pE E 12 a = fun i => if i = 11 then a else E (i + 1) := by
        funext i
        unfold oz_pE
        rw [if_pos rfl]
      rw [e]
      exact k2
  · obtain ⟨t, k1, k2, k3, k4⟩ := core s o n E (fun _ _ => rfl) rfl (fun _ _ _ => rfl) p2 (by omega) p4 p3 (fun i hi => ⟨hE i hi, p5 i hi⟩)
    refine ⟨t, o, ?_, ?_, k3, k4⟩
    · rw [if_neg (by rw [oz_eq (by omega) (by omega)]; exact c)]
      exact k1
    · have e : oz_pE E n a = fun i => if i = n then a else E i := by
        funext i
        unfold oz_pE
        rw [if_neg c]
      rw [e, show oz_pn n = n + 1 from if_neg c]
      exact k2
theorem c_undo (hE : ∀ i, i < n → oz_V (E i)) (P : oz_PC s n o E) (h01 : ∀ i, i < n → E i 10 ≤ 1) : ∃ t, f_Main_undo s = some (decide (1 ≤ n), t) ∧ oz_PC t (n - 1) o E ∧ (1 ≤ n → oz_C t 10 (E (n - 1))) ∧ (n = 0 → t = s) ∧ oz_fr (fun p => p = 0 ∨ (10 ≤ p ∧ p < 34)) s t ∧ ∀ j, j ≠ 10 → t.1 0 j = s.1 0 j := by
  obtain ⟨p1, p2, p3, p4, p5⟩ := P
  unfold f_Main_undo
  rw [p3, pl_1]
  by_cases c : 1 ≤ n
  · rw [oz_ile_t c (by omega), decide_eq_true c]
    simp only [lf_lt]
    have V := hE (n - 1) (by omega)
    have C := oz_C_fr (t := lf_w s 0 10 (nI (n - 1))) V (p5 (n - 1) (by omega)) (fun p h1 h2 => oz_w_o (by omega))
    obtain ⟨t, k1, k2, k3⟩ := c_copy (s := lf_w s 0 10 (nI (n - 1))) (q := 10) (r := 101 + 24 * ((o + (n - 1)) % 12)) (by omega) (oz_h01 V C)
    refine ⟨t, ?_, ⟨by omega, p2, ?_, ?_, fun i hi => ?_⟩, fun _ => k3 _ V C, fun z => by omega, oz_fr_tr (oz_fr_w (by omega)) (oz_fr_mono k2 (by omega)), fun j hj => ?_⟩
    · rw [oz_sub c, oz_w_n (by omega), p4, oz_w_s, pl_12, nI_add, oz_mod (by omega) (by omega) (by omega), oz_ck (by omega) (by omega), k1, Option.bind_some]
    · rw [k2.1 0 (by omega)]; exact oz_w_s
    · rw [k2.1 0 (by omega), oz_w_n (by omega)]; exact p4
    · exact oz_C_fr (hE i (by omega)) (p5 i (by omega)) (fun p h1 h2 => by rw [k2.1 p (by omega), oz_w_o (by omega)])
    · rw [k2.1 0 (by omega), oz_w_n hj]
  · rw [oz_ile_f (by omega) (by omega), decide_eq_false c]
    exact ⟨s, rfl, ⟨by omega, p2, by rw [show n - 1 = n by omega]; exact p3, p4, fun i hi => p5 i (by omega)⟩, fun z => absurd z c, fun _ => rfl, oz_fr_rf, fun _ _ => rfl⟩
theorem m_rem52 {x : lf_S} {n : Nat} (hn : n < 12) (h6 : x.1 389 6 = nI n) : ∃ t, f_Mod_remembers_52 5000 (nI 0) (oz_md x a) = some (oz_md t a) ∧ (∀ j, j < 366 → t.1 393 (366 * n + j) = nI (a j)) ∧ (∀ k, k < 366 * n → t.1 393 k = x.1 393 k) ∧ oz_fr (fun p => p = 393) x t := by
  obtain ⟨t, k1, k2, k3, k4⟩ := oz_forE (N := 366) (fun i (t : lf_S) => (∀ j, j < i → t.1 393 (366 * n + j) = nI (a j)) ∧ (∀ k, k < 366 * n → t.1 393 k = x.1 393 k) ∧ oz_fr (fun p => p = 393) x t) (fun f i t => f_Mod_remembers_52 f (nI i) (oz_md t a)) (fun t => oz_md t a) (by
      intro f t ht
      rw [f_Mod_remembers_52, pl_366, oz_ile_t (by omega) (by omega)]) (by
      intro f i t hi ht
      obtain ⟨i1, i2, i3⟩ := ht
      refine ⟨lf_w t 393 (366 * n + i) (nI (a i)), ⟨fun j hj => ?_, fun k hk => ?_, oz_fr_tr i3 (oz_fr_w rfl)⟩, ?_⟩
      · by_cases cj : j = i
        · rw [cj]; exact oz_w_s
        · rw [oz_w_n (by omega)]; exact i1 j (by omega)
      · rw [oz_w_n (by omega)]; exact i2 k hk
      · rw [f_Mod_remembers_52, pl_366, oz_ile_f hi (by omega), oz_ck (by omega) (by omega), oz_md_o (by omega), i3.1 389 (by omega), h6, pk_mul, nI_add, oz_ck (by omega) (by omega), oz_md_r]
        simp only [lf_lt, pl_1, nI_add]
        rw [oz_md_wo (by omega)]) 366 0 5000 x (by omega) (by omega) ⟨fun j hj => absurd hj (by omega), fun _ _ => rfl, oz_fr_rf⟩
  exact ⟨t, k1, k2, k3, k4⟩
theorem m_rem11 {x : lf_S} : ∃ t, f_Mod_remembers_11 5000 (nI 0) (oz_md x a) = some (oz_md t a) ∧ (∀ k, k < 4026 → t.1 393 k = x.1 393 (k + 366)) ∧ oz_fr (fun p => p = 393) x t := by
  obtain ⟨t, k1, k2, k3, k4⟩ := oz_forE (N := 4026) (fun i (t : lf_S) => (∀ k, k < i → t.1 393 k = x.1 393 (k + 366)) ∧ (∀ k, i ≤ k → t.1 393 k = x.1 393 k) ∧ oz_fr (fun p => p = 393) x t) (fun f i t => f_Mod_remembers_11 f (nI i) (oz_md t a)) (fun t => oz_md t a) (by
      intro f t ht
      rw [f_Mod_remembers_11, pl_4026, oz_ile_t (by omega) (by omega)]) (by
      intro f i t hi ht
      obtain ⟨i1, i2, i3⟩ := ht
      refine ⟨lf_w t 393 i (x.1 393 (i + 366)), ⟨fun j hj => ?_, fun k hk => ?_, oz_fr_tr i3 (oz_fr_w rfl)⟩, ?_⟩
      · by_cases cj : j = i
        · rw [cj]; exact oz_w_s
        · rw [oz_w_n (by omega)]; exact i1 j (by omega)
      · rw [oz_w_n (by omega)]; exact i2 k (by omega)
      · rw [f_Mod_remembers_11, pl_4026, oz_ile_f hi (by omega), pl_366, nI_add, oz_ck (by omega) (by omega), oz_ck (by omega) (by omega), oz_md_o (by omega), i2 (i + 366) (by omega)]
        simp only [lf_lt, pl_1, nI_add]
        rw [oz_md_wo (by omega)]) 4026 0 5000 x (by omega) (by omega) ⟨fun j hj => absurd hj (by omega), fun _ _ => rfl, oz_fr_rf⟩
  exact ⟨t, k1, k2, k4⟩
theorem m_remembers (P : oz_PM s n E) : ∃ t, f_Mod_remembers (oz_md s a) = some (oz_md t a) ∧ oz_PM t (oz_pn n) (oz_pE E n a) ∧ oz_fr (fun p => p = 389 ∨ p = 393) s t ∧ ∀ j, j ≠ 6 → t.1 389 j = s.1 389 j := by
  obtain ⟨p1, p2, p3⟩ := P
  unfold f_Mod_remembers
  rw [oz_md_o (by omega), p2, pl_12]
  by_cases c : n = 12
  · subst c
    obtain ⟨t1, k1, k2, k3⟩ := m_rem11 (x := s) (a := a)
    obtain ⟨t2, l1, l2, l3, l4⟩ := m_rem52 (x := lf_w t1 389 6 (nI 11)) (a := a) (n := 11) (by omega) oz_w_s
    have w1 : (lf_w t1 389 6 (nI 11)).1 393 = t1.1 393 := oz_w_o (by omega)
    refine ⟨lf_w t2 389 6 (nI 12), ?_, ⟨by rw [show oz_pn 12 = 12 from rfl]; omega, ?_, fun i j hi hj => ?_⟩, ?_, fun j hj => ?_⟩
    · rw [if_pos rfl]
      simp only [lf_lt, pl_0, pl_1, k1, Option.bind_some]
      rw [oz_md_o (by omega), k3.1 389 (by omega), p2, oz_sub (by omega), oz_md_wo (by omega), l1, Option.bind_some, oz_md_o (by omega), l4.1 389 (by omega), oz_w_s, nI_add, oz_md_wo (by omega)]
    · exact oz_w_s
    · unfold oz_pn at hi
      rw [if_pos rfl] at hi
      rw [oz_w_o (by omega)]
      unfold oz_pE
      rw [if_pos rfl]
      by_cases ci : i = 11
      · rw [if_pos ci, ci]; exact l2 j hj
      · rw [if_neg ci, l3 _ (by omega), w1, k2 _ (by omega)]
        have := p3 (i + 1) j (by omega) hj
        rw [show 366 * (i + 1) + j = 366 * i + j + 366 by omega] at this
        exact this
    · exact oz_fr_tr (oz_fr_mono k3 (by omega)) (oz_fr_tr (oz_fr_w (by omega)) (oz_fr_tr (oz_fr_mono l4 (by omega)) (oz_fr_w (by omega))))
    · rw [oz_w_n hj, l4.1 389 (by omega), oz_w_n hj, k3.1 389 (by omega)]
  · obtain ⟨t2, l1, l2, l3, l4⟩ := m_rem52 (x := s) (a := a) (n := n) (by omega) p2
    refine ⟨lf_w t2 389 6 (nI (n + 1)), ?_, ⟨by unfold oz_pn; rw [if_neg c]; omega, ?_, fun i j hi hj => ?_⟩, ?_, fun j hj => ?_⟩
    · rw [if_neg (by rw [oz_eq (by omega) (by omega)]; exact c)]
      simp only [lf_lt, pl_0, pl_1, l1, Option.bind_some]
      rw [oz_md_o (by omega), l4.1 389 (by omega), p2, nI_add, oz_md_wo (by omega)]
    · unfold oz_pn; rw [if_neg c]; exact oz_w_s
    · unfold oz_pn at hi
      rw [if_neg c] at hi
      rw [oz_w_o (by omega)]
      unfold oz_pE
      rw [if_neg c]
      by_cases ci : i = n
      · rw [if_pos ci, ci]; exact l2 j hj
      · rw [if_neg ci, l3 _ (by omega)]; exact p3 i j (by omega) hj
    · exact oz_fr_tr (oz_fr_mono l4 (by omega)) (oz_fr_w (by omega))
    · rw [oz_w_n hj, l4.1 389 (by omega)]
/-- what undo leaves -/
def oz_un (E : Nat → Nat → Nat) (n : Nat) (a : Nat → Nat) : Nat → Nat := fun j => if j < 366 then E (n - 1) j else a j
theorem m_undo (P : oz_PM s n E) : ∃ t, f_Mod_undo (oz_md s a) = some (decide (1 ≤ n), oz_md t (if 1 ≤ n then oz_un E n a else a)) ∧ oz_PM t (n - 1) E ∧ t.1 389 0 = nI 0 ∧ oz_fr (fun p => p = 389) s t ∧ ∀ j, j ≠ 6 → j ≠ 0 → t.1 389 j = s.1 389 j := by
  obtain ⟨p1, p2, p3⟩ := P
  unfold f_Mod_undo
  simp only [lf_lt]
  have e6 : (lf_w (oz_md s a) 389 0 0).1 389 6 = nI n := by rw [oz_w_n (by omega), oz_md_o (by omega), p2]
  by_cases c : 1 ≤ n
  · rw [if_neg (by rw [e6, pl_0, oz_eq (by omega) (by omega)]; omega), decide_eq_true c, if_pos c, e6, pl_0, pl_1, oz_sub c, oz_md_wo (by omega), oz_md_wo (by omega)]
    obtain ⟨w, k1, k2⟩ := oz_forE (N := 366) (fun i (e : Nat → Nat) => e = fun j => if j < i then E (n - 1) j else a j) (fun f i e => f_Mod_undo_26 f (nI i) (oz_md (lf_w (lf_w s 389 0 (nI 0)) 389 6 (nI (n - 1))) e)) (fun e => oz_md (lf_w (lf_w s 389 0 (nI 0)) 389 6 (nI (n - 1))) e) (by
        intro f e he
        rw [f_Mod_undo_26, pl_366, oz_ile_t (by omega) (by omega)]) (by
        intro f i e hi he
        refine ⟨oz_up e i (E (n - 1) i), ?_, ?_⟩
        · funext j
          by_cases cj : j = i
          · rw [cj, oz_up_s, if_pos (by omega)]
          · rw [oz_up_n cj, he]
            by_cases cl : j < i
            · show (if j < i then _ else _) = _
              rw [if_pos cl, if_pos (by omega)]
            · show (if j < i then _ else _) = _
              rw [if_neg cl, if_neg (by omega)]
        · rw [f_Mod_undo_26, pl_366, oz_ile_f hi (by omega), oz_md_o (by omega), oz_w_s, pk_mul, nI_add, oz_ck (by omega) (by omega), oz_ck (by omega) (by omega), oz_md_o (by omega), oz_w_o (by omega), oz_w_o (by omega), p3 (n - 1) i (by omega) hi]
          simp only [lf_lt, pl_1, nI_add]
          rw [oz_md_w]) 366 0 5000 a (by omega) (by omega) (by funext j; rw [if_neg (by omega)])
    rw [k1, Option.bind_some, k2]
    refine ⟨_, rfl, ⟨by omega, oz_w_s, fun i j hi hj => ?_⟩, ?_, oz_fr_tr (oz_fr_w rfl) (oz_fr_w rfl), fun j h1 h2 => ?_⟩
    · rw [oz_w_o (by omega), oz_w_o (by omega)]; exact p3 i j (by omega) hj
    · rw [oz_w_n (by omega)]; exact oz_w_s
    · rw [oz_w_n h1, oz_w_n h2]
  · rw [if_pos (by rw [e6, show n = 0 by omega]; rfl), decide_eq_false c, if_neg c, pl_0, oz_md_wo (by omega)]
    refine ⟨_, rfl, ⟨by omega, ?_, fun i j hi hj => by omega⟩, oz_w_s, oz_fr_w rfl, fun j h1 h2 => oz_w_n h2⟩
    rw [oz_w_n (by omega), p2, show n - 1 = n by omega]
end
