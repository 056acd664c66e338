/-! ===== image and back ===== -/
/-- the law at c in t is the one at b in s -/
def oz_LE (s : lf_S) (b : Nat) (t : lf_S) (c : Nat) : Prop := t.1 c 0 = s.1 b 0 ∧ t.1 c 5 = s.1 b 5 ∧ (∀ i, i < 12 → t.1 (c + 1) i = s.1 (b + 1) i ∧ t.1 (c + 2) i = s.1 (b + 2) i ∧ t.1 (c + 3) i = s.1 (b + 3) i) ∧ ∀ i, i < 400 → t.1 (c + 4) i = s.1 (b + 4) i
theorem oz_LE_rf {s : lf_S} {b : Nat} : oz_LE s b s b := ⟨rfl, rfl, fun _ _ => ⟨rfl, rfl, rfl⟩, fun _ _ => rfl⟩
theorem oz_LE_tr {s t u : lf_S} {a b c : Nat} (h : oz_LE s a t b) (k : oz_LE t b u c) : oz_LE s a u c := ⟨k.1.trans h.1, k.2.1.trans h.2.1, fun i hi => ⟨(k.2.2.1 i hi).1.trans (h.2.2.1 i hi).1, (k.2.2.1 i hi).2.1.trans (h.2.2.1 i hi).2.1, (k.2.2.1 i hi).2.2.trans (h.2.2.1 i hi).2.2⟩, fun i hi => (k.2.2.2 i hi).trans (h.2.2.2 i hi)⟩
theorem oz_LE_fr {s t : lf_S} {b : Nat} (h : ∀ p, b ≤ p → p < b + 5 → t.1 p = s.1 p) : oz_LE s b t b := ⟨by rw [h b (by omega) (by omega)], by rw [h b (by omega) (by omega)], fun i _ => ⟨by rw [h (b + 1) (by omega) (by omega)], by rw [h (b + 2) (by omega) (by omega)], by rw [h (b + 3) (by omega) (by omega)]⟩, fun i _ => by rw [h (b + 4) (by omega) (by omega)]⟩
section
variable {s : lf_S} {a e : Nat → Nat} {q r : Nat}
theorem c_lawCopy (hd : q + 6 ≤ r ∨ r + 6 ≤ q) : ∃ t, f_Law_copy q r s = some t ∧ oz_fr (fun p => q ≤ p ∧ p < q + 6) s t ∧ oz_LE s r t q := by
  unfold f_Law_copy
  simp (disch := first | assumption | omega) only [lf_lt, pl_0, pl_12, pl_400, oz_cpk]
  refine ⟨_, rfl, oz_fr_tr (oz_fr_w (by omega)) (oz_fr_tr (oz_fr_w (by omega)) (oz_fr_tr (oz_fr_cp (by omega)) (oz_fr_tr (oz_fr_cp (by omega)) (oz_fr_tr (oz_fr_cp (by omega)) (oz_fr_cp (by omega)))))), ?_⟩
  refine ⟨?_, ?_, fun i hi => ⟨?_, ?_, ?_⟩, fun i hi => ?_⟩
  · simp (disch := first | assumption | omega) only [oz_cp_s, oz_cp_o, oz_w_s, oz_w_n, oz_w_o]
  · simp (disch := first | assumption | omega) only [oz_cp_s, oz_cp_o, oz_w_s, oz_w_n, oz_w_o]
  · simp (disch := first | assumption | omega) only [oz_cp_s, oz_cp_o, oz_w_s, oz_w_n, oz_w_o]
  · simp (disch := first | assumption | omega) only [oz_cp_s, oz_cp_o, oz_w_s, oz_w_n, oz_w_o]
  · simp (disch := first | assumption | omega) only [oz_cp_s, oz_cp_o, oz_w_s, oz_w_n, oz_w_o]
  · simp (disch := first | assumption | omega) only [oz_cp_s, oz_cp_o, oz_w_s, oz_w_n, oz_w_o]
theorem c_image (V : oz_V a) (C : oz_C s 10 a) : ∃ t, f_Main_image s = some t ∧ oz_C t 70 a ∧ oz_LE s 34 t 94 ∧ t.1 0 11 = nI 1 ∧ oz_fr (fun p => p = 0 ∨ (70 ≤ p ∧ p < 100)) s t ∧ ∀ j, j ≠ 11 → t.1 0 j = s.1 0 j := by
  obtain ⟨t1, k1, k2, k3⟩ := c_copy (s := s) (q := 70) (r := 10) (by omega) (oz_h01 V C)
  obtain ⟨t2, l1, l2, l3⟩ := c_lawCopy (s := t1) (q := 94) (r := 34) (by omega)
  unfold f_Main_image
  rw [k1, Option.bind_some, l1, Option.bind_some]
  simp only [lf_lt, pl_1]
  refine ⟨_, rfl, ?_, ?_, oz_w_s, ?_, fun j hj => ?_⟩
  · exact oz_C_fr V (k3 a V C) (fun p h1 h2 => by rw [oz_w_o (by omega), l2.1 p (by omega)])
  · exact oz_LE_tr (oz_LE_tr (oz_LE_fr (fun p h1 h2 => k2.1 p (by omega))) l3) (oz_LE_fr (fun p h1 h2 => oz_w_o (by omega)))
  · exact oz_fr_tr (oz_fr_mono k2 (by omega)) (oz_fr_tr (oz_fr_mono l2 (by omega)) (oz_fr_w (by omega)))
  · rw [oz_w_n hj, l2.1 0 (by omega), k2.1 0 (by omega)]
theorem c_back1 (V : oz_V e) (C : oz_C s 70 e) (h : s.1 0 11 = nI 1) : ∃ t, f_Main_back s = some (true, t) ∧ oz_C t 10 e ∧ oz_LE s 94 t 34 ∧ t.1 0 10 = nI 0 ∧ oz_fr (fun p => p = 0 ∨ (10 ≤ p ∧ p < 40)) s t ∧ ∀ j, j ≠ 10 → t.1 0 j = s.1 0 j := by
  obtain ⟨t1, k1, k2, k3⟩ := c_copy (s := s) (q := 10) (r := 70) (by omega) (oz_h01 V C)
  obtain ⟨t2, l1, l2, l3⟩ := c_lawCopy (s := t1) (q := 34) (r := 94) (by omega)
  unfold f_Main_back
  rw [h, if_neg (by decide +kernel), k1, Option.bind_some, l1, Option.bind_some]
  simp only [lf_lt, pl_0]
  refine ⟨_, rfl, ?_, ?_, oz_w_s, ?_, fun j hj => ?_⟩
  · exact oz_C_fr V (k3 e V C) (fun p h1 h2 => by rw [oz_w_o (by omega), l2.1 p (by omega)])
  · exact oz_LE_tr (oz_LE_tr (oz_LE_fr (fun p h1 h2 => k2.1 p (by omega))) l3) (oz_LE_fr (fun p h1 h2 => oz_w_o (by omega)))
  · exact oz_fr_tr (oz_fr_mono k2 (by omega)) (oz_fr_tr (oz_fr_mono l2 (by omega)) (oz_fr_w (by omega)))
  · rw [oz_w_n hj, l2.1 0 (by omega), k2.1 0 (by omega)]
theorem c_back0 (h : s.1 0 11 = nI 0) : f_Main_back s = some (false, s) := by
  unfold f_Main_back
  rw [h, if_pos (show nI 0 = (0 : Int32) from rfl)]
theorem m_image : ∃ t, f_Mod_image (oz_md s a) = some (oz_md t a) ∧ (∀ j, j < 766 → t.1 391 j = nI (a j)) ∧ t.1 389 3 = nI 1 ∧ t.1 389 0 = nI 0 ∧ oz_fr (fun p => p = 389 ∨ p = 391) s t ∧ ∀ j, j ≠ 0 → j ≠ 3 → t.1 389 j = s.1 389 j := by
  obtain ⟨t, k1, k2, k3⟩ := oz_forE (N := 766) (fun i (t : lf_S) => (∀ j, j < i → t.1 391 j = nI (a j)) ∧ oz_fr (fun p => p = 391) (lf_w s 389 0 (nI 0)) t) (fun f i t => f_Mod_image_7 f (nI i) (oz_md t a)) (fun t => oz_md t a) (by
      intro f t ht
      rw [f_Mod_image_7, pl_766, oz_ile_t (by omega) (by omega)]) (by
      intro f i t hi ht
      obtain ⟨i1, i2⟩ := ht
      refine ⟨lf_w t 391 i (nI (a i)), ⟨fun j hj => ?_, oz_fr_tr i2 (oz_fr_w rfl)⟩, ?_⟩
      · by_cases cj : j = i
        · rw [cj]; exact oz_w_s
        · rw [oz_w_n cj]; exact i1 j (by omega)
      · rw [f_Mod_image_7, pl_766, oz_ile_f hi (by omega), oz_ck (by omega) (by omega), oz_ck (by omega) (by omega), oz_md_r]
        simp only [lf_lt, pl_1, nI_add]
        rw [oz_md_wo (by omega)]) 766 0 5000 (lf_w s 389 0 (nI 0)) (by omega) (by omega) ⟨fun j hj => absurd hj (by omega), oz_fr_rf⟩
  refine ⟨lf_w t 389 3 (nI 1), ?_, fun j hj => by rw [oz_w_o (by omega)]; exact k2 j hj, oz_w_s, ?_, oz_fr_tr (oz_fr_w (by omega)) (oz_fr_tr (oz_fr_mono k3 (by omega)) (oz_fr_w (by omega))), fun j h1 h2 => ?_⟩
  · unfold f_Mod_image
    simp only [lf_lt, pl_0, pl_1]
    rw [oz_md_wo (by omega), k1, Option.bind_some, oz_md_wo (by omega)]
  · rw [oz_w_n (by omega), k3.1 389 (by omega)]; exact oz_w_s
  · rw [oz_w_n h2, k3.1 389 (by omega), oz_w_n h1]
/-- what back leaves -/
def oz_bk (e a : Nat → Nat) : Nat → Nat := fun j => if j < 766 then e j else a j
theorem m_back1 (h : s.1 389 3 = nI 1) (he : ∀ j, j < 766 → s.1 391 j = nI (e j)) : ∃ t, f_Mod_back (oz_md s a) = some (true, oz_md t (oz_bk e a)) ∧ t.1 389 0 = nI 0 ∧ t.1 389 6 = nI 0 ∧ oz_fr (fun p => p = 389) s t ∧ ∀ j, j ≠ 0 → j ≠ 6 → t.1 389 j = s.1 389 j := by
  obtain ⟨w, k1, k2⟩ := oz_forE (N := 766) (fun i (f : Nat → Nat) => f = fun j => if j < i then e j else a j) (fun g i f => f_Mod_back_16 g (nI i) (oz_md (lf_w s 389 0 (nI 0)) f)) (fun f => oz_md (lf_w s 389 0 (nI 0)) f) (by
      intro g f hf
      rw [f_Mod_back_16, pl_766, oz_ile_t (by omega) (by omega)]) (by
      intro g i f hi hf
      refine ⟨oz_up f i (e i), ?_, ?_⟩
      · funext j
        by_cases cj : j = i
        · rw [cj, oz_up_s, if_pos (by omega)]
        · rw [oz_up_n cj, hf]
          by_cases cl : j < i
          · show (if j < i then _ else _) = _
            rw [if_pos cl, if_pos (by omega)]
          · show (if j < i then _ else _) = _
            rw [if_neg cl, if_neg (by omega)]
      · rw [f_Mod_back_16, pl_766, oz_ile_f hi (by omega), oz_ck (by omega) (by omega), oz_ck (by omega) (by omega), oz_md_o (by omega), oz_w_o (by omega), he i hi]
        simp only [lf_lt, pl_1, nI_add]
        rw [oz_md_w]) 766 0 5000 a (by omega) (by omega) (by funext j; rw [if_neg (by omega)])
  have e3 : (lf_w (oz_md s a) 389 0 (0 : Int32)).1 389 3 = nI 1 := by rw [oz_w_n (by omega), oz_md_o (by omega)]; exact h
  refine ⟨lf_w (lf_w s 389 0 (nI 0)) 389 6 (nI 0), ?_, ?_, oz_w_s, oz_fr_tr (oz_fr_w rfl) (oz_fr_w rfl), fun j h1 h2 => ?_⟩
  · unfold f_Mod_back
    simp only [lf_lt]
    rw [if_neg (by rw [e3]; decide +kernel), pl_0, oz_md_wo (by omega), k1, Option.bind_some, oz_md_wo (by omega), k2]
    rfl
  · rw [oz_w_n (by omega)]; exact oz_w_s
  · rw [oz_w_n h2, oz_w_n h1]
theorem m_back0 (h : s.1 389 3 = nI 0) : f_Mod_back (oz_md s a) = some (false, oz_md (lf_w s 389 0 (nI 0)) a) := by
  have e3 : (lf_w (oz_md s a) 389 0 (0 : Int32)).1 389 3 = nI 0 := by rw [oz_w_n (by omega), oz_md_o (by omega)]; exact h
  unfold f_Mod_back
  simp only [lf_lt]
  rw [if_pos (by rw [e3]; rfl), pl_0, oz_md_wo (by omega)]
end
