/-! ===== what holds between the calls; a call answered ===== -/
def oz_IM (s : lf_S) : Prop := (s.1 0 11 = nI 0 ∧ s.1 389 3 = nI 0) ∨ (s.1 0 11 = nI 1 ∧ s.1 389 3 = nI 1 ∧ ∃ e Le, oz_V e ∧ oz_C s 70 e ∧ oz_LW s 94 e Le ∧ ∀ j, j < 766 → s.1 391 j = nI (e j))
def oz_I (s : lf_S) (a : Nat → Nat) (L : List (Nat × Nat × List Nat)) (n o : Nat) (E : Nat → Nat → Nat) (T : Nat → Nat) (len : Nat) : Prop := s = oz_md s a ∧ oz_V a ∧ oz_C s 10 a ∧ oz_LW s 34 a L ∧ oz_T s T len ∧ s.1 1 2 = s.1 389 12 ∧ oz_PC s n o E ∧ oz_PM s n E ∧ (∀ i, i < n → oz_V (E i) ∧ E i 1 = a 1 ∧ E i 2 = a 2) ∧ oz_IM s
def oz_Inv (s : lf_S) : Prop := ∃ a L n o E T len, oz_I s a L n o E T len
/-- all that the invariant speaks of stays -/
def oz_kp (s t : lf_S) : Prop := (∀ p, p = 2 ∨ (10 ≤ p ∧ p < 39) ∨ (70 ≤ p ∧ p < 99) ∨ (100 ≤ p ∧ p < 389) ∨ p = 390 ∨ p = 391 ∨ p = 393 ∨ p = 394 → t.1 p = s.1 p) ∧ (∀ j, j = 3 ∨ j = 6 ∨ j = 8 ∨ j = 12 → t.1 389 j = s.1 389 j) ∧ (∀ j, j = 9 ∨ j = 10 ∨ j = 11 → t.1 0 j = s.1 0 j) ∧ (∀ j, j = 1 ∨ j = 2 → t.1 1 j = s.1 1 j)
theorem oz_kp_rf {s : lf_S} : oz_kp s s := ⟨fun _ _ => rfl, fun _ _ => rfl, fun _ _ => rfl, fun _ _ => rfl⟩
theorem oz_kp_tr {s t u : lf_S} (h : oz_kp s t) (k : oz_kp t u) : oz_kp s u := ⟨fun p hp => (k.1 p hp).trans (h.1 p hp), fun j hj => (k.2.1 j hj).trans (h.2.1 j hj), fun j hj => (k.2.2.1 j hj).trans (h.2.2.1 j hj), fun j hj => (k.2.2.2 j hj).trans (h.2.2.2 j hj)⟩
theorem oz_kp_1 {s t : lf_S} (h : t.1 = s.1) : oz_kp s t := ⟨fun p _ => by rw [h], fun j _ => by rw [h], fun j _ => by rw [h], fun j _ => by rw [h]⟩
/-- only scratch cells change -/
theorem oz_kp_fr {s t : lf_S} (h : oz_fr (fun p => (3 ≤ p ∧ p < 10) ∨ p = 39 ∨ (40 ≤ p ∧ p < 70) ∨ p = 392 ∨ 395 ≤ p) s t) : oz_kp s t := ⟨fun p hp => h.1 p (by omega), fun j _ => by rw [h.1 389 (by omega)], fun j _ => by rw [h.1 0 (by omega)], fun j _ => by rw [h.1 1 (by omega)]⟩
theorem oz_row {s x : lf_S} {a : Nat → Nat} (h : s = oz_md s a) (k : x.1 390 = s.1 390) : x = oz_md x a := by
  refine oz_S_ext (fun p => ?_) rfl
  by_cases c : p = 390
  · rw [c, k, h]; rfl
  · rw [oz_md_o c]
theorem oz_kp_md {x t : lf_S} {a : Nat → Nat} (hx : x = oz_md x a) (h : oz_fr (fun p => p = 389 ∨ (3 ≤ p ∧ p < 10) ∨ p = 39 ∨ (40 ≤ p ∧ p < 70) ∨ p = 392 ∨ 395 ≤ p) x t) (hj : ∀ j, j = 3 ∨ j = 6 ∨ j = 8 ∨ j = 12 → t.1 389 j = x.1 389 j) : oz_kp x (oz_md t a) := by
  refine ⟨fun p hp => ?_, fun j hj' => by rw [oz_md_o (by omega)]; exact hj j hj', fun j _ => by rw [oz_md_o (by omega), h.1 0 (by omega)], fun j _ => by rw [oz_md_o (by omega), h.1 1 (by omega)]⟩
  by_cases c : p = 390
  · rw [c, hx]; rfl
  · rw [oz_md_o c, h.1 p (by omega)]
theorem oz_IM_kp {s t : lf_S} (h : oz_IM s) (k : oz_kp s t) : oz_IM t := by
  rcases h with ⟨h1, h2⟩ | ⟨h1, h2, e, Le, h3, h4, h5, h6⟩
  · exact Or.inl ⟨by rw [k.2.2.1 11 (by omega)]; exact h1, by rw [k.2.1 3 (by omega)]; exact h2⟩
  · exact Or.inr ⟨by rw [k.2.2.1 11 (by omega)]; exact h1, by rw [k.2.1 3 (by omega)]; exact h2, e, Le, h3, oz_C_fr h3 h4 (fun p p1 p2 => k.1 p (by omega)), oz_LW_cg h5 (fun p p1 p2 => k.1 p (by omega)) rfl rfl (fun _ _ => rfl), fun j hj => by rw [k.1 391 (by omega)]; exact h6 j hj⟩
section
variable {s t : lf_S} {a : Nat → Nat} {L : List (Nat × Nat × List Nat)} {n o : Nat} {E : Nat → Nat → Nat} {T : Nat → Nat} {len : Nat}
theorem oz_PC_fr (h : oz_PC s n o E) (hE : ∀ i, i < n → oz_V (E i)) (h0 : t.1 0 10 = s.1 0 10) (h9 : t.1 0 9 = s.1 0 9) (f : ∀ p, 101 ≤ p → p < 389 → t.1 p = s.1 p) : oz_PC t n o E := ⟨h.1, h.2.1, h0.trans h.2.2.1, h9.trans h.2.2.2.1, fun i hi => oz_C_fr (hE i hi) (h.2.2.2.2 i hi) (fun p p1 p2 => f p (by have := h.2.1; omega) (by have := h.2.1; omega))⟩
theorem oz_PM_fr (h : oz_PM s n E) (h6 : t.1 389 6 = s.1 389 6) (f : t.1 393 = s.1 393) : oz_PM t n E := ⟨h.1, h6.trans h.2.1, fun i j hi hj => by rw [f]; exact h.2.2 i j hi hj⟩
theorem oz_I_kp (I : oz_I s a L n o E T len) (k : oz_kp s t) : oz_I t a L n o E T len := by
  obtain ⟨i1, i2, i3, i4, i5, i6, i7, i8, i9, i10⟩ := I
  obtain ⟨t1, t2, t3, t4⟩ := i5
  refine ⟨oz_row i1 (k.1 390 (by omega)), i2, oz_C_fr i2 i3 (fun p p1 p2 => k.1 p (by omega)), oz_LW_cg i4 (fun p p1 p2 => k.1 p (by omega)) rfl rfl (fun _ _ => rfl), ⟨by rw [k.2.2.2 1 (by omega)]; exact t1, by rw [k.2.1 8 (by omega)]; exact t2, t3, fun i hi => by rw [k.1 2 (by omega), k.1 394 (by omega)]; exact t4 i hi⟩, by rw [k.2.2.2 2 (by omega), k.2.1 12 (by omega)]; exact i6, oz_PC_fr i7 (fun i hi => (i9 i hi).1) (k.2.2.1 10 (by omega)) (k.2.2.1 9 (by omega)) (fun p p1 p2 => k.1 p (by omega)), oz_PM_fr i8 (k.2.1 6 (by omega)) (k.1 393 (by omega)), i9, oz_IM_kp i10 k⟩
theorem oz_Inv_kp (I : oz_I s a L n o E T len) (k : oz_kp s t) : oz_Inv t := ⟨a, L, n, o, E, T, len, oz_I_kp I k⟩
end
/-! a call that answers a number or throws -/
def oz_An (H : Nat → Option Int32) (F : Option ((Nat ⊕ Int32) × lf_S)) (G : lf_S → Option (Int32 × lf_S)) : Prop := (∃ v s1, F = some (Sum.inr v, s1) ∧ ∀ x, x.1 = s1.1 → ∃ t, G x = some (v, t) ∧ t.1 389 0 = nI 0 ∧ t.2 = x.2 ∧ oz_Inv t) ∨ (∃ e k s1, F = some (Sum.inl e, s1) ∧ H e = some (nI k) ∧ 1 ≤ k ∧ k < 10 ∧ ∃ w t, G s1 = some (w, t) ∧ t.1 389 0 = nI k ∧ oz_Inv t)
theorem oz_caseI {H : Nat → Option Int32} {F : Option ((Nat ⊕ Int32) × lf_S)} {G : lf_S → Option (Int32 × lf_S)} (h : oz_An H F G) : ∃ t, (lf_wr F H (fun v s2 => lf_ck (0 : Int32) 1 (fun k1 => lf_lt (lf_wl s2 k1 (v).toInt64) (fun s2 => some ((0 : Int32), s2))))).bind (fun p1 => lf_lt p1.1 (fun y2 => (G p1.2).bind (fun p3 => lf_lt p3.1 (fun y4 => (f_Mod_thrown p3.2).bind (fun p5 => (if p5 = y2 then (if y2 = 0 then lf_ck (0 : Int32) 1 (fun k6 => (if (lg_cmp (p3.2.2 k6) (y4).toInt64) = 0 then some p3.2 else none)) else some p3.2) else none)))))) = some t ∧ oz_Inv t := by
  rcases h with ⟨v, s1, hF, hG⟩ | ⟨e, k, s1, hF, hH, k1, k2, w, t, hG, h0, hI⟩
  · obtain ⟨t, g1, g2, g3, g4⟩ := hG (lf_wl s1 0 v.toInt64) rfl
    refine ⟨t, ?_, g4⟩
    have e1 : lf_wr F H (fun v s2 => lf_ck (0 : Int32) 1 (fun k1 => lf_lt (lf_wl s2 k1 (v).toInt64) (fun s2 => some ((0 : Int32), s2)))) = some (nI 0, lf_wl s1 0 v.toInt64) := by
      rw [hF]
      show lf_ck (0 : Int32) 1 (fun k1 => lf_lt (lf_wl s1 k1 (v).toInt64) (fun s2 => some ((0 : Int32), s2))) = _
      rw [pl_0, oz_ck (by omega) (by omega)]
      rfl
    rw [e1, Option.bind_some]
    simp only [lf_lt]
    rw [g1, Option.bind_some]
    show (if t.1 389 0 = nI 0 then (if nI 0 = (0 : Int32) then lf_ck (0 : Int32) 1 (fun k6 => (if (lg_cmp (t.2 k6) (v).toInt64) = 0 then some t else none)) else some t) else none) = some t
    rw [if_pos g2, if_pos (show nI 0 = (0 : Int32) from rfl), pl_0, oz_ck (by omega) (by omega)]
    have e2 : t.2 0 = v.toInt64 := by rw [g3]; rfl
    rw [if_pos (show lg_cmp (t.2 0) v.toInt64 = nI 0 from (lg_cmp_eq _ _).2 e2)]
  · refine ⟨t, ?_, hI⟩
    have e1 : lf_wr F H (fun v s2 => lf_ck (0 : Int32) 1 (fun k1 => lf_lt (lf_wl s2 k1 (v).toInt64) (fun s2 => some ((0 : Int32), s2)))) = some (nI k, s1) := by
      rw [hF]
      show (H e).map (fun k => (k, s1)) = _
      rw [hH]
      rfl
    rw [e1, Option.bind_some]
    simp only [lf_lt]
    rw [hG, Option.bind_some]
    show (if t.1 389 0 = nI k then (if nI k = (0 : Int32) then _ else some t) else none) = some t
    rw [if_pos h0, if_neg (show ¬ (nI k = (0 : Int32)) by rw [pl_0, oz_eq (by omega) (by omega)]; omega)]
def oz_AnB (H : Nat → Option Int32) (F : Option ((Nat ⊕ Bool) × lf_S)) (G : lf_S → Option (Bool × lf_S)) : Prop := (∃ v s1, F = some (Sum.inr v, s1) ∧ ∀ x, x.1 = s1.1 → ∃ t, G x = some (v, t) ∧ t.1 389 0 = nI 0 ∧ t.2 = x.2 ∧ oz_Inv t) ∨ (∃ e k s1, F = some (Sum.inl e, s1) ∧ H e = some (nI k) ∧ 1 ≤ k ∧ k < 10 ∧ ∃ w t, G s1 = some (w, t) ∧ t.1 389 0 = nI k ∧ oz_Inv t)
theorem oz_caseB {H : Nat → Option Int32} {F : Option ((Nat ⊕ Bool) × lf_S)} {G : lf_S → Option (Bool × lf_S)} (h : oz_AnB H F G) : ∃ t, (lf_wr F H (fun v s2 => (if v = true then lf_ck (0 : Int32) 1 (fun k3 => lf_lt (lf_wl s2 k3 (1 : Int64)) (fun s4 => some ((0 : Int32), s4))) else lf_ck (0 : Int32) 1 (fun k1 => lf_lt (lf_wl s2 k1 (0 : Int64)) (fun s2 => some ((0 : Int32), s2)))))).bind (fun p1 => lf_lt p1.1 (fun y2 => (G p1.2).bind (fun p3 => lf_lt p3.1 (fun e4 => (f_Mod_thrown p3.2).bind (fun p5 => (if p5 = y2 then (if y2 = 0 then lf_ck (0 : Int32) 1 (fun k6 => (if e4 = true then (if (lg_cmp (p3.2.2 k6) (1 : Int64)) = 0 then some p3.2 else none) else (if (lg_cmp (p3.2.2 k6) (0 : Int64)) = 0 then some p3.2 else none))) else some p3.2) else none)))))) = some t ∧ oz_Inv t := by
  rcases h with ⟨v, s1, hF, hG⟩ | ⟨e, k, s1, hF, hH, k1, k2, w, t, hG, h0, hI⟩
  · obtain ⟨t, g1, g2, g3, g4⟩ := hG (lf_wl s1 0 (if v = true then 1 else 0)) rfl
    refine ⟨t, ?_, g4⟩
    have e1 : lf_wr F H (fun v s2 => (if v = true then lf_ck (0 : Int32) 1 (fun k3 => lf_lt (lf_wl s2 k3 (1 : Int64)) (fun s4 => some ((0 : Int32), s4))) else lf_ck (0 : Int32) 1 (fun k1 => lf_lt (lf_wl s2 k1 (0 : Int64)) (fun s2 => some ((0 : Int32), s2))))) = some (nI 0, lf_wl s1 0 (if v = true then 1 else 0)) := by
      rw [hF]
      show (if v = true then lf_ck (0 : Int32) 1 (fun k3 => lf_lt (lf_wl s1 k3 (1 : Int64)) (fun s4 => some ((0 : Int32), s4))) else lf_ck (0 : Int32) 1 (fun k1 => lf_lt (lf_wl s1 k1 (0 : Int64)) (fun s2 => some ((0 : Int32), s2)))) = _
      rw [show (0 : Int32) = nI 0 from rfl, oz_ck (by omega) (by omega), oz_ck (by omega) (by omega)]
      cases v <;> rfl
    rw [e1, Option.bind_some]
    simp only [lf_lt]
    rw [g1, Option.bind_some]
    show (if t.1 389 0 = nI 0 then (if nI 0 = (0 : Int32) then lf_ck (0 : Int32) 1 (fun k6 => (if v = true then (if (lg_cmp (t.2 k6) (1 : Int64)) = 0 then some t else none) else (if (lg_cmp (t.2 k6) (0 : Int64)) = 0 then some t else none))) else some t) else none) = some t
    rw [if_pos g2, if_pos (show nI 0 = (0 : Int32) from rfl), pl_0, oz_ck (by omega) (by omega)]
    have e2 : t.2 0 = (if v = true then 1 else 0) := by rw [g3]; rfl
    cases v with
    | true =>
      rw [if_pos (show true = true from rfl), if_pos (show lg_cmp (t.2 0) 1 = nI 0 from (lg_cmp_eq _ _).2 e2)]
    | false =>
      rw [if_neg (show ¬ (false = true) from Bool.noConfusion), if_pos (show lg_cmp (t.2 0) 0 = nI 0 from (lg_cmp_eq _ _).2 e2)]
  · refine ⟨t, ?_, hI⟩
    have e1 : lf_wr F H (fun v s2 => (if v = true then lf_ck (0 : Int32) 1 (fun k3 => lf_lt (lf_wl s2 k3 (1 : Int64)) (fun s4 => some ((0 : Int32), s4))) else lf_ck (0 : Int32) 1 (fun k1 => lf_lt (lf_wl s2 k1 (0 : Int64)) (fun s2 => some ((0 : Int32), s2))))) = some (nI k, s1) := by
      rw [hF]
      show (H e).map (fun k => (k, s1)) = _
      rw [hH]
      rfl
    rw [e1, Option.bind_some]
    simp only [lf_lt]
    rw [hG, Option.bind_some]
    show (if t.1 389 0 = nI k then (if nI k = (0 : Int32) then _ else some t) else none) = some t
    rw [if_pos h0, if_neg (show ¬ (nI k = (0 : Int32)) by rw [pl_0, oz_eq (by omega) (by omega)]; omega)]
/-- from the answers of both sides, as they are told -/
theorem oz_An_of {H : Nat → Option Int32} {F : Option ((Nat ⊕ Int32) × lf_S)} {G : lf_S → Option (Int32 × lf_S)} {R : Nat ⊕ Int32} {s1 : lf_S} (cd : Nat → Nat) (hF : F = some (R, s1)) (hH : ∀ e, R = Sum.inl e → H e = some (nI (cd e)) ∧ 1 ≤ cd e ∧ cd e < 10) (hG : ∀ x, x.1 = s1.1 → ∃ t, G x = some (R.elim (fun _ => nI 0) id, t) ∧ t.1 389 0 = R.elim (fun e => nI (cd e)) (fun _ => nI 0) ∧ t.2 = x.2 ∧ oz_Inv t) : oz_An H F G := by
  cases R with
  | inr v => exact Or.inl ⟨v, s1, hF, hG⟩
  | inl e =>
    obtain ⟨t, g1, g2, g3, g4⟩ := hG s1 rfl
    have h := hH e rfl
    exact Or.inr ⟨e, cd e, s1, hF, h.1, h.2.1, h.2.2, _, t, g1, g2, g4⟩
/-! what many calls begin with -/
section
variable {s x : lf_S} {a : Nat → Nat} {k : Nat} {y : Int32}
theorem oz_tb_r {R Q : Type} {v : R} {u : lf_S} {A : R → lf_S → Option ((Nat ⊕ Q) × lf_S)} : lf_tb (some (Sum.inr v, u)) A = A v u := rfl
theorem oz_tb_l {R Q : Type} {e : Nat} {u : lf_S} {A : R → lf_S → Option ((Nat ⊕ Q) × lf_S)} : lf_tb (some ((Sum.inl e : Nat ⊕ R), u)) A = some (Sum.inl e, u) := rfl
theorem c_nBed_t (C : oz_C s 10 a) (h : k < a 3) (h5 : a 3 ≤ 6) : f_Main_needBed (nI k) s = some (Sum.inr (), s) := by
  unfold f_Main_needBed
  rw [b_0 C.2.1, pl_1, show f_Main_needIndex (nI k) (0 : Int32) (nI (a 3) - nI 1) s = some (Sum.inr (), s) from oz_dn_le h (by omega)]
  rfl
theorem c_nBed_f (C : oz_C s 10 a) (h : y < nI 0 ∨ (¬ y < nI 0 ∧ nI (a 3) - nI 1 < y)) : f_Main_needBed y s = some (Sum.inl 3, s) := by
  unfold f_Main_needBed
  rw [b_0 C.2.1, pl_1, show f_Main_needIndex y (0 : Int32) (nI (a 3) - nI 1) s = some (Sum.inl 3, s) from c_needIndex_f h]
  rfl
theorem c_nHand_t (C : oz_C s 10 a) (h : k < a 5) (h5 : a 5 ≤ 5) : f_Main_needHand (nI k) s = some (Sum.inr (), s) := by
  unfold f_Main_needHand
  rw [h_0 C.2.2.2.1, pl_1, show f_Main_needIndex (nI k) (0 : Int32) (nI (a 5) - nI 1) s = some (Sum.inr (), s) from oz_dn_le h (by omega)]
  rfl
theorem c_nHand_f (C : oz_C s 10 a) (h : y < nI 0 ∨ (¬ y < nI 0 ∧ nI (a 5) - nI 1 < y)) : f_Main_needHand y s = some (Sum.inl 3, s) := by
  unfold f_Main_needHand
  rw [h_0 C.2.2.2.1, pl_1, show f_Main_needIndex y (0 : Int32) (nI (a 5) - nI 1) s = some (Sum.inl 3, s) from c_needIndex_f h]
  rfl
theorem c_nOrd_t (C : oz_C s 10 a) (h : k < a 6) (h5 : a 6 ≤ 6) : f_Main_needOrder (nI k) s = some (Sum.inr (), s) := by
  unfold f_Main_needOrder
  rw [o_0 C.2.2.2.2.1, pl_1, show f_Main_needIndex (nI k) (0 : Int32) (nI (a 6) - nI 1) s = some (Sum.inr (), s) from oz_dn_le h (by omega)]
  rfl
theorem c_nOrd_f (C : oz_C s 10 a) (h : y < nI 0 ∨ (¬ y < nI 0 ∧ nI (a 6) - nI 1 < y)) : f_Main_needOrder y s = some (Sum.inl 3, s) := by
  unfold f_Main_needOrder
  rw [o_0 C.2.2.2.2.1, pl_1, show f_Main_needIndex y (0 : Int32) (nI (a 6) - nI 1) s = some (Sum.inl 3, s) from c_needIndex_f h]
  rfl
theorem oz_th0 {α : Type} {A B : lf_S → α} : lf_lt (lf_w (oz_md x a) 389 0 (0 : Int32)) (fun s3 => if (s3.1 389 0) ≤ 0 then A s3 else B s3) = A (oz_md (lf_w x 389 0 (nI 0)) a) := by
  unfold lf_lt
  rw [oz_go0w]
  exact if_pos oz_go0
theorem oz_th1 {α : Type} {A B : lf_S → α} : lf_lt (lf_w (oz_md x a) 389 0 (1 : Int32)) (fun s3 => if (s3.1 389 0) ≤ 0 then A s3 else B s3) = B (oz_md (lf_w x 389 0 (nI 1)) a) := by
  unfold lf_lt
  rw [oz_go1w]
  exact if_neg oz_go1
theorem oz_th2 {α : Type} {A B : lf_S → α} : lf_lt (lf_w (oz_md x a) 389 0 (2 : Int32)) (fun s3 => if (s3.1 389 0) ≤ 0 then A s3 else B s3) = B (oz_md (lf_w x 389 0 (nI 2)) a) := by
  unfold lf_lt
  rw [show lf_w (oz_md x a) 389 0 (2 : Int32) = oz_md (lf_w x 389 0 (nI 2)) a from oz_md_wo (by omega)]
  exact if_neg (by rw [oz_md_o (by omega), oz_w_s]; exact of_eq_false (oz_le_f (a := 2) (b := 0) (by omega) (by omega)))
theorem oz_th3 {α : Type} {A B : lf_S → α} : lf_lt (lf_w (oz_md x a) 389 0 (3 : Int32)) (fun s3 => if (s3.1 389 0) ≤ 0 then A s3 else B s3) = B (oz_md (lf_w x 389 0 (nI 3)) a) := by
  unfold lf_lt
  rw [show lf_w (oz_md x a) 389 0 (3 : Int32) = oz_md (lf_w x 389 0 (nI 3)) a from oz_md_wo (by omega)]
  exact if_neg (by rw [oz_md_o (by omega), oz_w_s]; exact of_eq_false (oz_le_f (a := 3) (b := 0) (by omega) (by omega)))
theorem oz_t389 {v : Int32} : (oz_md (lf_w x 389 0 v) a).1 389 0 = v := by rw [oz_md_o (by omega), oz_w_s]
/-- a query: nothing is changed but scratch cells -/
theorem oz_qI {L : List (Nat × Nat × List Nat)} {n o : Nat} {E : Nat → Nat → Nat} {T : Nat → Nat} {len : Nat} {H : Nat → Option Int32} {F : Option ((Nat ⊕ Int32) × lf_S)} {G : lf_S → Option (Int32 × lf_S)} {R : Nat ⊕ Int32} {s1 : lf_S} (I : oz_I s a L n o E T len) (cd : Nat → Nat) (hF : F = some (R, s1)) (hk : oz_kp s s1) (hH : ∀ e, R = Sum.inl e → H e = some (nI (cd e)) ∧ 1 ≤ cd e ∧ cd e < 10) (hG : ∀ x, x = oz_md x a → oz_I x a L n o E T len → ∃ t, G (oz_md x a) = some (R.elim (fun _ => nI 0) id, oz_md t a) ∧ t.1 389 0 = R.elim (fun e => nI (cd e)) (fun _ => nI 0) ∧ oz_fr (fun p => p = 389 ∨ (3 ≤ p ∧ p < 10) ∨ p = 39 ∨ (40 ≤ p ∧ p < 70) ∨ p = 392 ∨ 395 ≤ p) x t ∧ ∀ j, j = 3 ∨ j = 6 ∨ j = 8 ∨ j = 12 → t.1 389 j = x.1 389 j) : oz_An H F G := by
  refine oz_An_of cd hF hH (fun x hx => ?_)
  have kx := oz_kp_tr hk (oz_kp_1 hx)
  have Ix := oz_I_kp I kx
  obtain ⟨t, g1, g2, g3, g4⟩ := hG x Ix.1 Ix
  rw [← Ix.1] at g1
  exact ⟨_, g1, by rw [oz_md_o (by omega)]; exact g2, g3.2, oz_Inv_kp Ix (oz_kp_md Ix.1 g3 g4)⟩
end
