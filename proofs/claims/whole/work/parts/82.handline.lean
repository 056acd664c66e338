/-! ===== the lines of a hand and of an order ===== -/
def oz_hdl (T : Nat → Nat) (len : Nat) (st : Nat ⊕ Nat) : (Nat × Nat) × (Nat ⊕ Nat) :=
  ((oz_nmV T len 1 (nI 9) (oz_ndW T len 52 st), oz_nmV T len 0 (nI 99) (oz_ndW T len 53 (oz_nmS T len 1 (nI 9) (oz_ndW T len 52 st)))), oz_nmS T len 0 (nI 99) (oz_ndW T len 53 (oz_nmS T len 1 (nI 9) (oz_ndW T len 52 st))))
def oz_hdw (u : lf_S) (b n : Nat) (v : Nat × Nat) : lf_S := lf_w (lf_w (lf_w u (b + 1) n (nI v.1)) (b + 2) n (nI v.2)) b 0 (nI (n + 1))
def oz_odl (T : Nat → Nat) (len : Nat) (hi : Int32) (st : Nat ⊕ Nat) : (Nat × Nat) × (Nat ⊕ Nat) :=
  ((oz_nmV T len 0 hi st, oz_nmV T len 1 (nI 9) (oz_nmS T len 0 hi st)), oz_nmS T len 1 (nI 9) (oz_nmS T len 0 hi st))
def oz_odw (u : lf_S) (b n x : Nat) (v : Nat × Nat) : lf_S := lf_w (lf_w (lf_w (lf_w u (b + 1) n (nI v.1)) (b + 2) n (nI v.2)) b 1 (nI (x ||| 2 ^ n))) b 0 (nI (n + 1))
section
variable {s : lf_S} {T : Nat → Nat} {len : Nat}
theorem c_handsAdd {b n : Nat} (hn : n < 5) (h : s.1 b 0 = nI n) (v1 v2 : Nat) : f_Hands_add b (nI v1) (nI v2) s = some (oz_hdw s b n (v1, v2)) := by
  unfold f_Hands_add oz_hdw
  rw [h, pl_5, oz_ile_f hn (by omega), oz_ck hn (by omega)]
  simp only [lf_lt]
  rw [oz_w_o (by omega), h, oz_ck hn (by omega), oz_w_o (by omega), oz_w_o (by omega), h, pl_1, nI_add]
theorem c_readHand {st : Nat ⊕ Nat} (X : oz_CX s T len st) {b n : Nat} (hb : 10 ≤ b) (hn : n < 5) (h : s.1 b 0 = nI n) : ∃ u, f_HoltText_readHand b s = some (oz_hdw u b n (oz_hdl T len (oz_ndW T len 34 st)).1) ∧ oz_CX u T len (oz_hdl T len (oz_ndW T len 34 st)).2 ∧ oz_fr (fun p => p = 1) s u := by
  obtain ⟨u1, a1, a2, a3⟩ := c_needWord X 34 (by decide +kernel)
  obtain ⟨u3, d1, d2, d3⟩ := c_needWord a2 52 (by decide +kernel)
  obtain ⟨u4, e1, e2, e3⟩ := c_takeNumber d2 (lo := 1) (hi := nI 9) (by omega)
  obtain ⟨u5, f1, f2, f3⟩ := c_needWord e2 53 (by decide +kernel)
  obtain ⟨u6, g1, g2, g3⟩ := c_takeNumber f2 (lo := 0) (hi := nI 99) (by omega)
  have fr7 : oz_fr (fun p => p = 1) s u6 := oz_fr_tr a3 (oz_fr_tr d3 (oz_fr_tr e3 (oz_fr_tr f3 g3)))
  unfold f_HoltText_readHand
  simp only [lf_lt, pl_0, pl_1, pl_9, pl_99, a1, d1, e1, f1, g1, Option.bind_some]
  rw [c_handsAdd hn (by rw [fr7.1 b (by omega)]; exact h), Option.bind_some]
  exact ⟨u6, rfl, g2, fr7⟩
theorem c_ordersAdd {b n x : Nat} (hn : n < 6) (h : s.1 b 0 = nI n) (hx : s.1 b 1 = nI x) (hx6 : x < 64) (v1 v2 : Nat) : f_Orders_add b (nI v1) (nI v2) s = some (oz_odw s b n x (v1, v2)) := by
  unfold f_Orders_add oz_odw
  have hp : 2 ^ n < 4294967296 := Nat.lt_of_lt_of_le (Nat.pow_lt_pow_right (by omega) (show n < 6 by omega)) (by omega)
  rw [h, pl_6, oz_ile_f hn (by omega), oz_ck hn (by omega)]
  simp only [lf_lt]
  rw [oz_w_o (by omega), h, oz_ck hn (by omega), oz_w_o (by omega), oz_w_o (by omega), hx, h, pl_1, pl_31, oz_shl1 (by omega), oz_bvor (by omega) hp, oz_w_n (by omega), oz_w_o (by omega), oz_w_o (by omega), h, nI_add]
theorem c_readOrder {st : Nat ⊕ Nat} (X : oz_CX s T len st) {b n x k : Nat} (hb : 10 ≤ b) (hn : n < 6) (h : s.1 (b + 18) 0 = nI n) (hx : s.1 (b + 18) 1 = nI x) (hx6 : x < 64) (hk : s.1 (b + 6) 0 = nI k) : ∃ u, f_HoltText_readOrder b s = some (oz_odw u (b + 18) n x (oz_odl T len (nI k - nI 1) (oz_ndW T len 35 st)).1) ∧ oz_CX u T len (oz_odl T len (nI k - nI 1) (oz_ndW T len 35 st)).2 ∧ oz_fr (fun p => p = 1) s u := by
  obtain ⟨u1, a1, a2, a3⟩ := c_needWord X 35 (by decide +kernel)
  obtain ⟨u4, e1, e2, e3⟩ := c_takeNumber a2 (lo := 0) (hi := nI k - nI 1) (by omega)
  obtain ⟨u6, g1, g2, g3⟩ := c_takeNumber e2 (lo := 1) (hi := nI 9) (by omega)
  have fr7 : oz_fr (fun p => p = 1) s u6 := oz_fr_tr a3 (oz_fr_tr e3 g3)
  have hk1 : u1.1 (b + 6) 0 = nI k := by rw [a3.1 (b + 6) (by omega)]; exact hk
  unfold f_HoltText_readOrder
  simp only [lf_lt, pl_0, pl_1, pl_9, a1, Option.bind_some]
  rw [show u1.1 (b + 6) (0 : Nat) = nI k from hk1]
  simp only [e1, g1, Option.bind_some]
  rw [c_ordersAdd hn (by rw [fr7.1 _ (by omega)]; exact h) (by rw [fr7.1 _ (by omega)]; exact hx) hx6, Option.bind_some]
  exact ⟨u6, rfl, g2, fr7⟩
def oz_hdu (a : Nat → Nat) (v : Nat × Nat) : Nat → Nat := oz_up (oz_up (oz_up a (98 + 2 * a 5) v.1) (98 + 2 * a 5 + 1) v.2) 5 (a 5 + 1)
theorem m_handLine {a : Nat → Nat} {st : Nat ⊕ Nat} {y : Int32} (X : oz_MX (oz_md s a) T len st) (h9 : s.1 389 9 = oz_N) (hn : a 5 < 5) : ∃ u, f_Mod_handLine y (oz_md s a) = some (oz_md u (match (oz_hdl T len st).2 with
    | Sum.inl _ => a
    | Sum.inr _ => oz_hdu a (oz_hdl T len st).1)) ∧ oz_MX (oz_md u a) T len (oz_hdl T len st).2 ∧ oz_fm (oz_md s a) (oz_md u a) := by
  have t4 : mj_tx 11 = mj_tx 52 := by decide +kernel
  have t5 : mj_tx 12 = mj_tx 53 := by decide +kernel
  obtain ⟨w3, u3, d1, d2, d3, d4⟩ := m_after X 11 (by decide +kernel) (by decide +kernel) (lo := 1) (hi := nI 9) (by omega)
  rw [oz_ndW_cg t4] at d2 d4
  obtain ⟨w4, u4, e1, e2, e3, e4⟩ := m_after d2 12 (by decide +kernel) (by decide +kernel) (lo := 0) (hi := nI 99) (by omega)
  rw [oz_ndW_cg t5] at e2 e4
  have f4 : oz_fm (oz_md s a) u4 := oz_fm_tr d3 e3
  have hu := oz_fm_md f4
  unfold f_Mod_handLine
  rw [pl_5, oz_ck (by omega) (by omega), oz_md_r, if_neg (by rw [oz_eq (by omega) (by omega)]; omega)]
  simp only [lf_lt, pl_0, pl_1, pl_9, pl_99, d1, e1, Option.bind_some, oz_neg1]
  unfold oz_hdl
  have n9 : u4.1 389 9 = oz_N := by rw [f4.2 9 (by omega) (by omega), oz_md_o (by omega)]; exact h9
  refine ⟨u4, ?_, oz_MX_md e2 n9, by rw [← hu]; exact f4⟩
  cases hs : oz_nmS T len 0 (nI 99) (oz_ndW T len 53 (oz_nmS T len 1 (nI 9) (oz_ndW T len 52 st))) with
  | inl q =>
    rw [hs] at e2
    rw [if_neg (oz_atl e2)]
    exact congrArg some hu
  | inr p =>
    obtain ⟨p5, hp5⟩ := oz_nmS_r hs
    obtain ⟨p4, hp4⟩ := oz_ndW_r hp5
    have ew3 := d4 p4 hp4
    have ew4 := e4 p hs
    rw [hs] at e2
    rw [if_pos (oz_at e2), ew3, ew4]
    have h5 : u4.1 390 5 = nI (a 5) := by rw [hu]; exact oz_md_r
    have e : ∀ k v a', lf_w (oz_md u4 a') 390 k (nI v) = oz_md u4 (oz_up a' k v) := fun k v a' => oz_md_w
    unfold f_Mod_hires oz_hdu
    rw [pl_5, oz_ck (by omega) (by omega), h5, pl_98, pl_2, pk_mul, nI_add, oz_ck (by omega) (by omega)]
    simp only [lf_lt]
    rw [oz_ck (by omega) (by omega), oz_w_n (by omega), h5, pk_mul, nI_add, pl_1, nI_add, oz_ck (by omega) (by omega), oz_ck (by omega) (by omega), oz_ck (by omega) (by omega), oz_w_n (by omega), oz_w_n (by omega), h5, nI_add, Option.bind_some]
    conv => lhs; rw [hu]
    rw [e, e, e]
end
