/-! ===== the line of a bed ===== -/
/-- behind the word: what is told, and where the reading stands -/
def oz_bdl (T : Nat → Nat) (len : Nat) (st : Nat ⊕ Nat) : (Nat × Nat × Nat × Nat) × (Nat ⊕ Nat) :=
  if oz_isW T len 43 (oz_nmS T len 1 (nI 99) (oz_ndW T len 42 (oz_nmS T len 0 (nI 9) (oz_ndW T len 41 (oz_srt T len st).2)))) = true then
    (((oz_srt T len st).1, oz_nmV T len 0 (nI 9) (oz_ndW T len 41 (oz_srt T len st).2), oz_nmV T len 1 (nI 99) (oz_ndW T len 42 (oz_nmS T len 0 (nI 9) (oz_ndW T len 41 (oz_srt T len st).2))), oz_nmV T len 0 (nI 9) (oz_toW T len 43 (oz_nmS T len 1 (nI 99) (oz_ndW T len 42 (oz_nmS T len 0 (nI 9) (oz_ndW T len 41 (oz_srt T len st).2)))))), oz_nmS T len 0 (nI 9) (oz_toW T len 43 (oz_nmS T len 1 (nI 99) (oz_ndW T len 42 (oz_nmS T len 0 (nI 9) (oz_ndW T len 41 (oz_srt T len st).2))))))
  else (((oz_srt T len st).1, oz_nmV T len 0 (nI 9) (oz_ndW T len 41 (oz_srt T len st).2), oz_nmV T len 1 (nI 99) (oz_ndW T len 42 (oz_nmS T len 0 (nI 9) (oz_ndW T len 41 (oz_srt T len st).2))), 0), oz_nmS T len 1 (nI 99) (oz_ndW T len 42 (oz_nmS T len 0 (nI 9) (oz_ndW T len 41 (oz_srt T len st).2))))
def oz_bdw (u : lf_S) (b n : Nat) (v : Nat × Nat × Nat × Nat) : lf_S := lf_w (lf_w (lf_w (lf_w (lf_w u (b + 1) n (nI v.1)) (b + 2) n (nI v.2.1)) (b + 3) n (nI v.2.2.1)) (b + 4) n (nI v.2.2.2)) b 0 (nI (n + 1))
section
variable {s : lf_S} {T : Nat → Nat} {len : Nat}
theorem c_bedsAdd {b n : Nat} (hn : n < 6) (h : s.1 b 0 = nI n) (v1 v2 v3 v4 : Nat) : f_Beds_add b (nI v1) (nI v2) (nI v3) (nI v4) s = some (oz_bdw s b n (v1, v2, v3, v4)) := by
  unfold f_Beds_add oz_bdw
  rw [h, pl_6, oz_ile_f hn (by omega), oz_ck hn (by omega)]
  simp only [lf_lt]
  rw [oz_w_o (by omega), h, oz_ck hn (by omega), oz_w_o (by omega), oz_w_o (by omega), h, oz_ck hn (by omega), oz_w_o (by omega), oz_w_o (by omega), oz_w_o (by omega), h, oz_ck hn (by omega), oz_w_o (by omega), oz_w_o (by omega), oz_w_o (by omega), oz_w_o (by omega), h, pl_1, nI_add]
theorem c_readBed {st : Nat ⊕ Nat} (X : oz_CX s T len st) {b n : Nat} (hb : 10 ≤ b) (hn : n < 6) (h : s.1 b 0 = nI n) : ∃ u, f_HoltText_readBed b s = some (oz_bdw u b n (oz_bdl T len (oz_ndW T len 32 st)).1) ∧ oz_CX u T len (oz_bdl T len (oz_ndW T len 32 st)).2 ∧ oz_fr (fun p => p = 1) s u := by
  obtain ⟨u1, a1, a2, a3⟩ := c_needWord X 32 (by decide +kernel)
  obtain ⟨u2, b1, b2, b3⟩ := c_readSort a2
  obtain ⟨u3, d1, d2, d3⟩ := c_needWord b2 41 (by decide +kernel)
  obtain ⟨u4, e1, e2, e3⟩ := c_takeNumber d2 (lo := 0) (hi := nI 9) (by omega)
  obtain ⟨u5, f1, f2, f3⟩ := c_needWord e2 42 (by decide +kernel)
  obtain ⟨u6, g1, g2, g3⟩ := c_takeNumber f2 (lo := 1) (hi := nI 99) (by omega)
  obtain ⟨u7, i1, i2, i3⟩ := c_takeWord g2 43 (by decide +kernel)
  have fr7 : oz_fr (fun p => p = 1) s u7 := oz_fr_tr a3 (oz_fr_tr b3 (oz_fr_tr d3 (oz_fr_tr e3 (oz_fr_tr f3 (oz_fr_tr g3 i3)))))
  unfold f_HoltText_readBed
  simp only [lf_lt, pl_0, pl_1, pl_9, pl_99, a1, b1, d1, e1, f1, g1, i1, Option.bind_some]
  unfold oz_bdl
  cases c : oz_isW T len 43 (oz_nmS T len 1 (nI 99) (oz_ndW T len 42 (oz_nmS T len 0 (nI 9) (oz_ndW T len 41 (oz_srt T len (oz_ndW T len 32 st)).2)))) with
  | true =>
    obtain ⟨u8, j1, j2, j3⟩ := c_takeNumber i2 (lo := 0) (hi := nI 9) (by omega)
    have fr8 := oz_fr_tr fr7 j3
    rw [if_pos rfl, if_pos rfl, j1, Option.bind_some]
    try dsimp only
    rw [c_bedsAdd hn (by rw [fr8.1 b (by omega)]; exact h), Option.bind_some]
    exact ⟨u8, rfl, j2, fr8⟩
  | false =>
    rw [oz_toW_f c] at i2
    rw [if_neg Bool.noConfusion, if_neg Bool.noConfusion, c_bedsAdd hn (by rw [fr7.1 b (by omega)]; exact h), Option.bind_some]
    exact ⟨u7, rfl, i2, fr7⟩
theorem oz_CX_fr {t : lf_S} {st : Nat ⊕ Nat} (X : oz_CX s T len st) (h1 : t.1 1 = s.1 1) (h2 : t.1 2 = s.1 2) : oz_CX t T len st := by
  unfold oz_CX at X ⊢
  rw [h1, h2]
  exact X
theorem oz_nmS_r {lo p : Nat} {hi : Int32} {st : Nat ⊕ Nat} (h : oz_nmS T len lo hi st = Sum.inr p) : ∃ q, st = Sum.inr q := by
  cases st with
  | inl q => exact nomatch h
  | inr q => exact ⟨q, rfl⟩
theorem oz_ndW_r {t p : Nat} {st : Nat ⊕ Nat} (h : oz_ndW T len t st = Sum.inr p) : ∃ q, st = Sum.inr q := by
  cases st with
  | inl q => exact nomatch h
  | inr q => exact ⟨q, rfl⟩
/-- in the model's row -/
def oz_bdu (a : Nat → Nat) (v : Nat × Nat × Nat × Nat) : Nat → Nat := oz_up (oz_up (oz_up (oz_up (oz_up a (13 + 4 * a 3 + 0) v.1) (13 + 4 * a 3 + 1) v.2.1) (13 + 4 * a 3 + 2) v.2.2.1) (13 + 4 * a 3 + 3) v.2.2.2) 3 (a 3 + 1)
theorem oz_fm_md {u : lf_S} {a : Nat → Nat} (f : oz_fm (oz_md s a) u) : u = oz_md u a := by
  refine oz_S_ext (fun p => ?_) rfl
  by_cases c : p = 390
  · rw [c, f.1.1 390 (by omega)]; rfl
  · rw [oz_md_o c]
theorem oz_MX_md {u : lf_S} {a : Nat → Nat} {st : Nat ⊕ Nat} (X : oz_MX u T len st) (h : u.1 389 9 = oz_N) : oz_MX (oz_md u a) T len st := by
  obtain ⟨h1, h2, h3, h4, h5⟩ := X
  refine ⟨by rw [oz_md_o (by omega)]; exact h1, h2, h3, ?_, ?_⟩
  · rcases h4 with ⟨g1, g2⟩ | ⟨g1, g2⟩
    · exact Or.inl ⟨by rw [oz_md_o (by omega)]; exact g1, fun i hi => by rw [oz_md_o (by omega)]; exact g2 i hi⟩
    · rw [h] at g1
      exact absurd g1 (of_eq_false (oz_m1eq (by omega)))
  · cases st with
    | inl q => exact ⟨by rw [oz_md_o (by omega)]; exact h5.1, h5.2.1, by rw [oz_md_o (by omega)]; exact h5.2.2⟩
    | inr p => exact ⟨by rw [oz_md_o (by omega)]; exact h5.1, by rw [oz_md_o (by omega)]; exact h5.2⟩
theorem m_bedLine {a : Nat → Nat} {st : Nat ⊕ Nat} {y : Int32} (X : oz_MX (oz_md s a) T len st) (h9 : s.1 389 9 = oz_N) (hn : a 3 < 6) : ∃ u, f_Mod_bedLine y (oz_md s a) = some (oz_md u (match (oz_bdl T len st).2 with
    | Sum.inl _ => a
    | Sum.inr _ => oz_bdu a (oz_bdl T len st).1)) ∧ oz_MX (oz_md u a) T len (oz_bdl T len st).2 ∧ oz_fm (oz_md s a) (oz_md u a) := by
  have t4 : mj_tx 3 = mj_tx 41 := by decide +kernel
  have t5 : mj_tx 4 = mj_tx 42 := by decide +kernel
  have t6 : mj_tx 5 = mj_tx 43 := by decide +kernel
  obtain ⟨w2, u2, b1, b2, b3, b4⟩ := m_sortWord X
  obtain ⟨w3, u3, d1, d2, d3, d4⟩ := m_after b2 3 (by decide +kernel) (by decide +kernel) (lo := 0) (hi := nI 9) (by omega)
  rw [oz_ndW_cg t4] at d2 d4
  obtain ⟨w4, u4, e1, e2, e3, e4⟩ := m_after d2 4 (by decide +kernel) (by decide +kernel) (lo := 1) (hi := nI 99) (by omega)
  rw [oz_ndW_cg t5] at e2 e4
  have f4 : oz_fm (oz_md s a) u4 := oz_fm_tr b3 (oz_fm_tr d3 e3)
  unfold f_Mod_bedLine
  rw [pl_3, oz_ck (by omega) (by omega), oz_md_r, pl_6, if_neg (by rw [oz_eq (by omega) (by omega)]; omega)]
  simp only [lf_lt, pl_0, pl_1, pl_2, pl_9, pl_99, b1, d1, e1, Option.bind_some, oz_neg1]
  -- what is written
  have wr : ∀ (u : lf_S) (v0 v1 v2 v3 : Nat), u = oz_md u a → lf_ck (nI 3) 766 (fun k39 => lf_ck (nI 13 + nI 4 * u.1 390 k39 + nI 0) 766 (fun k41 => lf_ck (nI 13 + nI 4 * u.1 390 k39 + nI 1) 766 (fun k43 => lf_ck (nI 13 + nI 4 * u.1 390 k39 + nI 2) 766 (fun k45 => lf_ck (nI 13 + nI 4 * u.1 390 k39 + nI 3) 766 (fun k47 => lf_ck (nI 3) 766 (fun k49 => lf_ck (nI 3) 766 (fun k50 => some (lf_w (lf_w (lf_w (lf_w (lf_w u 390 k41 (nI v0)) 390 k43 (nI v1)) 390 k45 (nI v2)) 390 k47 (nI v3)) 390 k50 ((lf_w (lf_w (lf_w (lf_w u 390 k41 (nI v0)) 390 k43 (nI v1)) 390 k45 (nI v2)) 390 k47 (nI v3)).1 390 k49 + nI 1)))))))) ) = some (oz_md u (oz_bdu a (v0, v1, v2, v3))) := by
    intro u v0 v1 v2 v3 hu
    have h3 : u.1 390 3 = nI (a 3) := by rw [hu]; exact oz_md_r
    rw [oz_ck (by omega) (by omega), h3, pk_mul, nI_add, nI_add, nI_add, nI_add, nI_add, oz_ck (by omega) (by omega), oz_ck (by omega) (by omega), oz_ck (by omega) (by omega), oz_ck (by omega) (by omega), oz_ck (by omega) (by omega), oz_ck (by omega) (by omega), oz_w_n (by omega), oz_w_n (by omega), oz_w_n (by omega), oz_w_n (by omega), h3, nI_add]
    have e : ∀ k v a', lf_w (oz_md u a') 390 k (nI v) = oz_md u (oz_up a' k v) := fun k v a' => oz_md_w
    unfold oz_bdu
    conv => lhs; rw [hu]
    rw [e, e, e, e, e]
  have skip : ∀ u : lf_S, u = oz_md u a → some u = some (oz_md u a) := fun u hu => congrArg some hu
  unfold oz_bdl
  cases hs : oz_nmS T len 1 (nI 99) (oz_ndW T len 42 (oz_nmS T len 0 (nI 9) (oz_ndW T len 41 (oz_srt T len st).2))) with
  | inl q =>
    rw [hs] at e2
    have hu := oz_fm_md f4
    have hE : oz_isW T len 43 (Sum.inl q) = false := rfl
    simp only [hE, Bool.false_eq_true, if_false]
    refine ⟨u4, ?_, by rw [← hu]; exact e2, by rw [← hu]; exact f4⟩
    have hat := oz_atl e2
    rw [if_neg hat, if_neg hat]
    exact skip u4 hu
  | inr p =>
    obtain ⟨p5, hp5⟩ := oz_nmS_r hs
    obtain ⟨p4, hp4⟩ := oz_ndW_r hp5
    obtain ⟨p3, hp3⟩ := oz_nmS_r hp4
    obtain ⟨p2, hp2⟩ := oz_ndW_r hp3
    have ew2 := b4 p2 hp2
    have ew3 := d4 p4 hp4
    have ew4 := e4 p hs
    rw [hs] at e2
    rw [if_pos (oz_at e2)]
    obtain ⟨u5, i1, i2, i3, i4⟩ := m_has e2 5 (by decide +kernel) (by decide +kernel)
    rw [oz_wd_cg t6] at i1 i4
    rw [oz_toW_cg t6] at i2
    have f5 := oz_fm_tr f4 i3
    have eW : oz_isW T len 43 (Sum.inr p) = oz_wd T len 43 p := rfl
    rw [i1, eW]
    simp only [Option.bind_some]
    have n9 : ∀ u, oz_fm (oz_md s a) u → u.1 389 9 = oz_N := fun u f => by rw [f.2 9 (by omega) (by omega), oz_md_o (by omega)]; exact h9
    have fin : ∀ (u : lf_S) (a' : Nat → Nat), oz_fm (oz_md s a) u → u = oz_md u a → oz_fm (oz_md s a) (oz_md u a) := fun u a' f hu => by rw [← hu]; exact f
    cases c : oz_wd T len 43 p with
    | true =>
      obtain ⟨w6, u6, j1, j2, j3, j4⟩ := m_figures i2 (lo := 0) (hi := nI 9) (by omega)
      have f6 := oz_fm_tr f5 j3
      have hu := oz_fm_md f6
      simp only [if_true, j1, Option.bind_some]
      refine ⟨u6, ?_, oz_MX_md j2 (n9 u6 f6), fin u6 a f6 hu⟩
      cases hz : oz_nmS T len 0 (nI 9) (oz_toW T len 43 (Sum.inr p)) with
      | inl q =>
        rw [hz] at j2
        rw [if_neg (oz_atl j2)]
        exact skip u6 hu
      | inr q =>
        rw [hz] at j2
        rw [if_pos (oz_at j2), ew2, ew3, ew4, j4 q hz]
        exact wr u6 _ _ _ _ hu
    | false =>
      rw [oz_toW_f (show oz_isW T len 43 (Sum.inr p) = false from c)] at i2
      have hu := oz_fm_md f5
      simp only [Bool.false_eq_true, if_false]
      refine ⟨u5, ?_, oz_MX_md i2 (n9 u5 f5), fin u5 a f5 hu⟩
      rw [if_pos (oz_at i2), ew2, ew3, ew4]
      exact wr u5 _ _ _ _ hu
end
