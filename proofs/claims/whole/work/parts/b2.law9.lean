/-! ===== the law's text, both sides ===== -/
def oz_lwR (T : Nat → Nat) (len : Nat) : Nat ⊕ Int32 := match (oz_lrA T len).2 with
  | Sum.inl _ => Sum.inl 0
  | Sum.inr _ => Sum.inr (nI (oz_lrA T len).1.length)
def oz_lwS (T : Nat → Nat) (len n : Nat) (a : Nat → Nat) : Nat → Nat := fun j => if 366 ≤ j ∧ j < 366 + n then T (j - 366) else oz_up (oz_up a 1 (oz_lrA T len).1.length) 2 len j
def oz_lwA (T : Nat → Nat) (len : Nat) (a : Nat → Nat) : Nat → Nat := match (oz_lrA T len).2 with
  | Sum.inl _ => a
  | Sum.inr _ => oz_lwS T len len a
theorem oz_lwA_lo {T : Nat → Nat} {len : Nat} {a : Nat → Nat} {j : Nat} (h : j < 366) (h1 : j ≠ 1) (h2 : j ≠ 2) : oz_lwA T len a j = a j := by
  unfold oz_lwA
  cases (oz_lrA T len).2 with
  | inl q => rfl
  | inr p =>
    show oz_lwS T len len a j = a j
    unfold oz_lwS
    rw [if_neg (by omega), oz_up_n h2, oz_up_n h1]
section
variable {s : lf_S} {T : Nat → Nat} {len : Nat} {a : Nat → Nat}
theorem oz_CL2_LE {t : lf_S} {q r : Nat} {L : List (Nat × Nat × List Nat)} (h : oz_CL2 s r L) (e : oz_LE s r t q) : oz_CL2 t q L := by
  obtain ⟨c0, c12, cE, cR⟩ := h
  obtain ⟨e0, e5, e1, e4⟩ := e
  refine ⟨by rw [e0]; exact c0, c12, ⟨by rw [e5]; exact cE.1, fun i hi => by rw [e4 i (by omega)]; exact cE.2 i hi⟩, fun i hi => ?_⟩
  obtain ⟨g1, g2, g3⟩ := e1 i (by omega)
  rw [g1, g2, g3]
  exact cR i hi
theorem c_law (h1 : s.1 1 1 = nI len) (h2 : len ≤ 400) (h3 : ∀ i, i < len → T i ≤ 255 ∧ s.1 2 i = nI (T i)) : ∃ t, f_Main_law s = some (oz_lwR T len, t) ∧ t.1 1 1 = nI 0 ∧ t.1 1 2 = oz_ft (oz_lrA T len).2 ∧ ((oz_lrA T len).2.isRight = true → oz_CL2 t 34 (oz_lrA T len).1 ∧ t.1 0 10 = nI 0) ∧ ((oz_lrA T len).2.isRight = false → (∀ p, 34 ≤ p → p < 40 → t.1 p = s.1 p) ∧ t.1 0 10 = s.1 0 10) ∧ oz_fr (fun p => p = 0 ∨ p = 1 ∨ (34 ≤ p ∧ p < 40) ∨ (64 ≤ p ∧ p < 70)) s t ∧ ∀ j, j ≠ 10 → t.1 0 j = s.1 0 j := by
  obtain ⟨u, k1, k2, k3, k4⟩ := c_lawRead (q := 64) (by omega) h1 h2 h3
  have ft := oz_CX_ft k2
  have f1 : oz_fr (fun p => p = 0 ∨ p = 1 ∨ (34 ≤ p ∧ p < 40) ∨ (64 ≤ p ∧ p < 70)) s (lf_w u 1 1 (nI 0)) := oz_fr_tr (oz_fr_mono k4 (by omega)) (oz_fr_w (by omega))
  unfold f_Main_law oz_lwR
  rw [k1, Option.bind_some]
  simp only [lf_lt]
  rw [pl_0]
  cases hx : (oz_lrA T len).2 with
  | inl q =>
    rw [hx] at ft
    rw [if_neg (show ¬ ((Sum.inl q : Nat ⊕ Nat).isRight = true) from Bool.noConfusion)]
    refine ⟨_, rfl, oz_w_s, by rw [oz_w_n (by omega)]; exact ft, fun h => Bool.noConfusion h, fun _ => ⟨fun p p1 p2 => by rw [oz_w_o (by omega), k4.1 p (by omega)], by rw [oz_w_o (by omega), k4.1 0 (by omega)]⟩, f1, fun j _ => by rw [oz_w_o (by omega), k4.1 0 (by omega)]⟩
  | inr p =>
    rw [hx] at ft
    have L := k3 (by rw [hx]; rfl)
    have L1 : oz_CL2 (lf_w u 1 1 (nI 0)) 64 (oz_lrA T len).1 := oz_CL2_fr L (fun p p1 p2 => oz_w_o (by omega))
    obtain ⟨t, l1, l2, l3⟩ := c_lawCopy (s := lf_w u 1 1 (nI 0)) (q := 34) (r := 64) (by omega)
    have L2 := oz_CL2_LE L1 l3
    rw [if_pos (show (Sum.inr p : Nat ⊕ Nat).isRight = true from rfl), l1, Option.bind_some]
    refine ⟨lf_w t 0 10 (nI 0), ?_, ?_, ?_, fun _ => ⟨oz_CL2_fr L2 (fun p p1 p2 => oz_w_o (by omega)), oz_w_s⟩, fun h => Bool.noConfusion h, oz_fr_tr f1 (oz_fr_tr (oz_fr_mono l2 (by omega)) (oz_fr_w (by omega))), fun j hj => ?_⟩
    · rw [oz_w_o (by omega), L2.1]
    · rw [oz_w_o (by omega), l2.1 1 (by omega), oz_w_s]
    · rw [oz_w_o (by omega), l2.1 1 (by omega), oz_w_n (by omega)]; exact ft
    · rw [oz_w_n hj, l2.1 0 (by omega), oz_w_o (by omega), k4.1 0 (by omega)]
theorem oz_MY_ft {d : Nat} {st : Nat ⊕ Nat} (X : oz_MY s T len d st) : s.1 389 12 = oz_ft st := by
  cases st with
  | inl q => exact X.2.2.2.2.1
  | inr p => exact X.2.2.2.2.1
theorem m_law55 {x : lf_S} {c1 : Int32} (h2 : len ≤ 400) (h10 : x.1 389 10 = nI len) (h3 : ∀ i, i < len → x.1 394 i = nI (T i)) : f_Mod_law_55 c1 5000 (nI 0) (oz_md x (oz_up (oz_up a 1 (oz_lrA T len).1.length) 2 len)) = some (oz_md x (oz_lwS T len len a)) := by
  have e0 : oz_up (oz_up a 1 (oz_lrA T len).1.length) 2 len = oz_lwS T len 0 a := by
    funext j
    unfold oz_lwS
    rw [if_neg (by omega)]
  obtain ⟨w, k1, k2⟩ := oz_forE (N := len) (fun i (e : Nat → Nat) => e = oz_lwS T len i a) (fun f i e => f_Mod_law_55 c1 f (nI i) (oz_md x e)) (fun e => oz_md x e) (by
      intro f e he
      rw [f_Mod_law_55, oz_md_o (by omega), h10, oz_ile_t (by omega) (by omega)]) (by
      intro f i e hi he
      refine ⟨oz_up e (366 + i) (T i), ?_, ?_⟩
      · rw [he]
        funext j
        by_cases cj : j = 366 + i
        · rw [cj, oz_up_s]
          unfold oz_lwS
          rw [if_pos (by omega), show 366 + i - 366 = i by omega]
        · rw [oz_up_n cj]
          unfold oz_lwS
          by_cases c : 366 ≤ j ∧ j < 366 + i
          · rw [if_pos c, if_pos (by omega)]
          · rw [if_neg c, if_neg (by omega)]
      · rw [f_Mod_law_55, oz_md_o (by omega), h10, oz_ile_f hi (by omega), oz_ck (by omega) (by omega), pl_366, nI_add, oz_ck (by omega) (by omega), oz_md_o (by omega), h3 i hi]
        simp only [lf_lt, pl_1, nI_add]
        rw [oz_md_w]) len 0 5000 (oz_lwS T len 0 a) (by omega) (by omega) rfl
  rw [e0, k1, k2]
theorem m_law (h8 : s.1 389 8 = nI len) (h2 : len ≤ 400) (h3 : ∀ i, i < len → T i ≤ 255 ∧ s.1 394 i = nI (T i)) : ∃ t, f_Mod_law (oz_md s a) = some ((oz_lwR T len).elim (fun _ => nI 0) id, oz_md t (oz_lwA T len a)) ∧ t.1 389 0 = (oz_lwR T len).elim (fun n => nI (n + 1)) (fun _ => nI 0) ∧ t.1 389 8 = nI 0 ∧ t.1 389 12 = oz_ft (oz_lrA T len).2 ∧ (t.1 389 6 = if (oz_lrA T len).2.isRight = true then nI 0 else s.1 389 6) ∧ t.1 389 3 = s.1 389 3 ∧ oz_fr (fun p => p = 389) s t := by
  obtain ⟨t1, l1, l2, l3, l4, l5, l6, l7, l8, l9⟩ := m_begins (s := s) (a := a) (len := len) h8
  have X : oz_MX (oz_md t1 a) T len (Sum.inr (oz_sb T len 0)) := by
    refine ⟨by rw [oz_md_o (by omega)]; exact l4, h2, fun i hi => (h3 i hi).1, Or.inl ⟨by rw [oz_md_o (by omega)]; exact l3, fun i hi => by rw [oz_md_o (by omega), l8.1 394 (by omega)]; exact (h3 i hi).2⟩, ?_⟩
    show (oz_md t1 a).1 389 12 = oz_N ∧ ∃ m, m ≤ len ∧ (oz_md t1 a).1 389 11 = nI m ∧ oz_sb T len m = oz_sb T len 0
    exact ⟨by rw [oz_md_o (by omega)]; exact l2, 0, by omega, by rw [oz_md_o (by omega)]; exact l6, rfl⟩
  obtain ⟨m, u, r1, r2, r3, r4⟩ := m_lawRead X (by rw [oz_md_o (by omega)]; exact l7)
  obtain ⟨u', rfl⟩ : ∃ z, u = oz_md z a := ⟨u, oz_fe_md r3⟩
  have ft := oz_MY_ft r2
  rw [oz_md_o (by omega)] at ft
  obtain ⟨w, w1, w2, w3, w4⟩ := oz_md_pick s u' a
  have fe : ∀ p, p ≠ 389 → p ≠ 390 → u'.1 p = t1.1 p := fun p p1 p2 => by
    have := r3.1.1 p p1
    rwa [oz_md_o p2, oz_md_o p2] at this
  have fej : ∀ j, j ≠ 11 → j ≠ 12 → j ≠ 15 → j ≠ 16 → u'.1 389 j = t1.1 389 j := fun j j1 j2 j3 j4 => by
    have := r3.2 j j1 j2 j3 j4
    rwa [oz_md_o (by omega), oz_md_o (by omega)] at this
  have wf : oz_fr (fun p => p = 389) s w := by
    refine ⟨fun p hp => ?_, ?_⟩
    · by_cases c : p = 390
      · rw [c]; exact w2
      · rw [w3 p c, fe p hp c, l8.1 p hp]
    · rw [w4]
      have e : u'.2 = t1.2 := r3.1.2
      rw [e, l8.2]
  have w389 : w.1 389 = u'.1 389 := w3 389 (by omega)
  have w8 : w.1 389 8 = nI 0 := by rw [w389, fej 8 (by omega) (by omega) (by omega) (by omega)]; exact l5
  have w10 : w.1 389 10 = nI len := by rw [w389, fej 10 (by omega) (by omega) (by omega) (by omega)]; exact l4
  have w6 : w.1 389 6 = s.1 389 6 := by rw [w389, fej 6 (by omega) (by omega) (by omega) (by omega)]; exact l9 6 (by omega)
  have wz3 : w.1 389 3 = s.1 389 3 := by rw [w389, fej 3 (by omega) (by omega) (by omega) (by omega)]; exact l9 3 (by omega)
  have w12 : w.1 389 12 = oz_ft (oz_lrA T len).2 := by rw [w389]; exact ft
  have w394 : ∀ i, i < len → w.1 394 i = nI (T i) := fun i hi => by rw [wf.1 394 (by omega)]; exact (h3 i hi).2
  have mw : ∀ x : Int32, lf_w (oz_md w a) 389 0 x = oz_md (lf_w w 389 0 x) a := fun x => oz_md_wo (by omega)
  unfold f_Mod_law oz_lwR oz_lwA
  rw [l1, Option.bind_some, r1, Option.bind_some, w1]
  simp only [lf_lt]
  rw [show (-1 : Int32) = oz_N from rfl, pl_0, pl_1, pl_2, oz_md_o (show (389 : Nat) ≠ 390 by omega), w12]
  cases hx : (oz_lrA T len).2 with
  | inl q =>
    rw [hx] at w12 r2
    have nq : ¬ (oz_ft (Sum.inl q) = oz_N) := by
      have := oz_atY r2
      rw [oz_MY_ft r2] at this
      exact this
    have gt : ¬ (oz_md (lf_w w 389 0 (nI 1)) a).1 389 0 ≤ nI 0 := oz_go1
    rw [if_neg nq, mw, if_neg gt]
    exact ⟨_, rfl, oz_w_s, by rw [oz_w_n (by omega)]; exact w8, by rw [oz_w_n (by omega)]; exact w12, by rw [oz_w_n (by omega)]; exact w6, by rw [oz_w_n (by omega)]; exact wz3, oz_fr_tr wf (oz_fr_w rfl)⟩
  | inr p =>
    have rm := (r4 (by rw [hx]; rfl)).1
    rw [hx] at w12
    have le : (oz_md (lf_w w 389 0 (nI 0)) a).1 389 0 ≤ nI 0 := oz_go0
    have lp := m_law55 (T := T) (len := len) (a := a) (x := lf_w w 389 0 (nI 0)) (c1 := nI (oz_lrA T len).1.length) h2 (by rw [oz_w_n (by omega)]; exact w10) (fun i hi => by rw [oz_w_o (by omega)]; exact w394 i hi)
    rw [if_pos (show oz_ft (Sum.inr p) = oz_N from rfl), mw, if_pos le, rm, oz_ck (by omega) (by omega), oz_ck (by omega) (by omega), oz_md_w, oz_md_o (by omega), oz_w_n (by omega), w10, oz_md_w, lp, Option.bind_some, oz_md_wo (by omega)]
    refine ⟨lf_w (lf_w w 389 0 (nI 0)) 389 6 (nI 0), rfl, ?_, ?_, ?_, oz_w_s, ?_, oz_fr_tr wf (oz_fr_tr (oz_fr_w rfl) (oz_fr_w rfl))⟩
    · rw [oz_w_n (by omega)]; exact oz_w_s
    · rw [oz_w_n (by omega), oz_w_n (by omega)]; exact w8
    · rw [oz_w_n (by omega), oz_w_n (by omega)]; exact w12
    · rw [oz_w_n (by omega), oz_w_n (by omega)]; exact wz3
/-- the law that was read stands in the row -/
theorem oz_LW_law {q : Nat} (hT : ∀ i, len ≤ i → T i = 0) (h2 : len ≤ 400) (h3 : ∀ i, i < len → T i ≤ 255) (hr : (oz_lrA T len).2.isRight = true) (L : oz_CL2 s q (oz_lrA T len).1) : oz_LW s q (oz_lwA T len a) (oz_lrA T len).1 := by
  have e : oz_lwA T len a = oz_lwS T len len a := by
    unfold oz_lwA
    cases hx : (oz_lrA T len).2 with
    | inl q => rw [hx] at hr; exact Bool.noConfusion hr
    | inr p => rfl
  have e1 : oz_lwS T len len a 1 = (oz_lrA T len).1.length := by
    unfold oz_lwS
    rw [if_neg (by omega), oz_up_n (by omega), oz_up_s]
  have e2 : oz_lwS T len len a 2 = len := by
    unfold oz_lwS
    rw [if_neg (by omega), oz_up_s]
  have e3 : ∀ i, i < len → oz_lwS T len len a (366 + i) = T i := fun i hi => by
    unfold oz_lwS
    rw [if_pos (by omega), show 366 + i - 366 = i by omega]
  have eT : oz_ttx (oz_lwS T len len a) = T := by
    funext i
    unfold oz_ttx
    rw [e2]
    by_cases c : i < len
    · rw [if_pos c]; exact e3 i c
    · rw [if_neg c, hT i (by omega)]
  rw [e]
  right
  rw [e1, e2, eT]
  exact ⟨rfl, h2, fun i hi => by rw [e3 i hi]; exact h3 i hi, hr, rfl, L⟩
end
