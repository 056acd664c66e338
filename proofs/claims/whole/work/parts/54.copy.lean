/-! ===== copies ===== -/
theorem oz_cpk {α : Type} {n m k : Nat} {A : Nat → Nat → Nat → Option α} (h1 : n ≤ m) (h2 : n ≤ k) (h3 : n < 2147483648) : lf_cpk (nI 0) (nI 0) (nI n) m k A = A 0 0 n := by
  unfold lf_cpk
  rw [nI_clamp (by omega), nI_clamp (by omega), if_neg]
  rintro (h | h | h | h | h)
  · exact absurd h (by decide +kernel)
  · exact absurd h (by decide +kernel)
  · exact nI_pos (by omega) h
  · omega
  · omega
theorem oz_cp_s {s : lf_S} {a b n i : Nat} (h : i < n) : (lf_cp s a 0 b 0 n).1 b i = s.1 a i := by
  show (if b = b then va_cpy (s.1 a) (s.1 b) 0 0 n else s.1 b) i = _
  rw [if_pos rfl, pk_cpy_in (by omega) (by omega), Nat.zero_add, Nat.sub_zero]
theorem oz_cp_o {s : lf_S} {a b n p : Nat} (h : p ≠ b) : (lf_cp s a 0 b 0 n).1 p = s.1 p := if_neg h
theorem oz_fr_cp {P : Nat → Prop} {s : lf_S} {a b n : Nat} (h : P b) : oz_fr P s (lf_cp s a 0 b 0 n) := ⟨fun p hp => oz_cp_o (fun e : p = b => hp (by rw [e]; exact h)), rfl⟩
section
variable {s : lf_S} {q r : Nat}
theorem c_copyB (hd : q + 5 ≤ r ∨ r + 5 ≤ q) : ∃ t, f_Beds_copy q r s = some t ∧ oz_fr (fun p => q ≤ p ∧ p < q + 5) s t ∧ ∀ e, e 3 ≤ 6 → oz_CB s r e → oz_CB t q e := by
  unfold f_Beds_copy
  simp (disch := first | assumption | omega) only [lf_lt, pl_0, pl_6, oz_cpk]
  refine ⟨_, rfl, oz_fr_tr (oz_fr_w (by omega)) (oz_fr_tr (oz_fr_cp (by omega)) (oz_fr_tr (oz_fr_cp (by omega)) (oz_fr_tr (oz_fr_cp (by omega)) (oz_fr_cp (by omega))))), ?_⟩
  intro e he C
  refine ⟨?_, fun i hi => ⟨?_, ?_, ?_, ?_⟩⟩
  · simp (disch := first | assumption | omega) only [oz_cp_s, oz_cp_o, oz_w_s, oz_w_o]; exact C.1
  · simp (disch := first | assumption | omega) only [oz_cp_s, oz_cp_o, oz_w_s, oz_w_o]; exact b_1 C hi
  · simp (disch := first | assumption | omega) only [oz_cp_s, oz_cp_o, oz_w_s, oz_w_o]; exact b_2 C hi
  · simp (disch := first | assumption | omega) only [oz_cp_s, oz_cp_o, oz_w_s, oz_w_o]; exact b_3 C hi
  · simp (disch := first | assumption | omega) only [oz_cp_s, oz_cp_o, oz_w_s, oz_w_o]; exact b_4 C hi
theorem c_copyK (hd : q + 9 ≤ r ∨ r + 9 ≤ q) : ∃ t, f_Baskets_copy q r s = some t ∧ oz_fr (fun p => q ≤ p ∧ p < q + 9) s t ∧ ∀ e, e 4 ≤ 5 → (∀ k, k < e 4 → oz_bas e k 4 ≤ 6) → oz_CK s r e → oz_CK t q e := by
  unfold f_Baskets_copy
  simp (disch := first | assumption | omega) only [lf_lt, pl_0, pl_5, pl_30, oz_cpk]
  refine ⟨_, rfl, oz_fr_tr (oz_fr_w (by omega)) (oz_fr_tr (oz_fr_cp (by omega)) (oz_fr_tr (oz_fr_cp (by omega)) (oz_fr_tr (oz_fr_cp (by omega)) (oz_fr_tr (oz_fr_cp (by omega)) (oz_fr_tr (oz_fr_cp (by omega)) (oz_fr_tr (oz_fr_cp (by omega)) (oz_fr_tr (oz_fr_cp (by omega)) (oz_fr_cp (by omega))))))))), ?_⟩
  intro e he h6 C
  refine ⟨?_, fun k hk => ⟨?_, ?_, ?_, ?_, ?_, ?_, ?_, fun i hi => ?_⟩⟩
  · simp (disch := first | assumption | omega) only [oz_cp_s, oz_cp_o, oz_w_s, oz_w_o]; exact C.1
  · simp (disch := first | assumption | omega) only [oz_cp_s, oz_cp_o, oz_w_s, oz_w_o]; exact k_1 C hk
  · simp (disch := first | assumption | omega) only [oz_cp_s, oz_cp_o, oz_w_s, oz_w_o]; exact k_2 C hk
  · simp (disch := first | assumption | omega) only [oz_cp_s, oz_cp_o, oz_w_s, oz_w_o]; exact k_3 C hk
  · simp (disch := first | assumption | omega) only [oz_cp_s, oz_cp_o, oz_w_s, oz_w_o]; exact k_4 C hk
  · simp (disch := first | assumption | omega) only [oz_cp_s, oz_cp_o, oz_w_s, oz_w_o]; exact k_5 C hk
  · simp (disch := first | assumption | omega) only [oz_cp_s, oz_cp_o, oz_w_s, oz_w_o]; exact k_6 C hk
  · simp (disch := first | assumption | omega) only [oz_cp_s, oz_cp_o, oz_w_s, oz_w_o]; exact k_8 C hk
  · have := h6 k hk
    simp (disch := first | assumption | omega) only [oz_cp_s, oz_cp_o, oz_w_s, oz_w_o]; exact k_7 C hk hi
theorem c_copyH (hd : q + 3 ≤ r ∨ r + 3 ≤ q) : ∃ t, f_Hands_copy q r s = some t ∧ oz_fr (fun p => q ≤ p ∧ p < q + 3) s t ∧ ∀ e, e 5 ≤ 5 → oz_CH s r e → oz_CH t q e := by
  unfold f_Hands_copy
  simp (disch := first | assumption | omega) only [lf_lt, pl_0, pl_5, oz_cpk]
  refine ⟨_, rfl, oz_fr_tr (oz_fr_w (by omega)) (oz_fr_tr (oz_fr_cp (by omega)) (oz_fr_cp (by omega))), ?_⟩
  intro e he C
  refine ⟨?_, fun i hi => ⟨?_, ?_⟩⟩
  · simp (disch := first | assumption | omega) only [oz_cp_s, oz_cp_o, oz_w_s, oz_w_o]; exact C.1
  · simp (disch := first | assumption | omega) only [oz_cp_s, oz_cp_o, oz_w_s, oz_w_o]; exact h_1 C hi
  · simp (disch := first | assumption | omega) only [oz_cp_s, oz_cp_o, oz_w_s, oz_w_o]; exact h_2 C hi
theorem c_copyO (hd : q + 3 ≤ r ∨ r + 3 ≤ q) : ∃ t, f_Orders_copy q r s = some t ∧ oz_fr (fun p => q ≤ p ∧ p < q + 3) s t ∧ ∀ e, e 6 ≤ 6 → oz_CO s r e → oz_CO t q e := by
  unfold f_Orders_copy
  simp (disch := first | assumption | omega) only [lf_lt, pl_0, pl_6, oz_cpk]
  refine ⟨_, rfl, oz_fr_tr (oz_fr_w (by omega)) (oz_fr_tr (oz_fr_w (by omega)) (oz_fr_tr (oz_fr_cp (by omega)) (oz_fr_cp (by omega)))), ?_⟩
  intro e he C
  refine ⟨?_, ?_, fun i hi => ⟨?_, ?_⟩⟩
  · simp (disch := first | assumption | omega) only [oz_cp_s, oz_cp_o, oz_w_s, oz_w_n, oz_w_o]; exact C.1
  · simp (disch := first | assumption | omega) only [oz_cp_s, oz_cp_o, oz_w_s, oz_w_n, oz_w_o]; exact C.2.1
  · simp (disch := first | assumption | omega) only [oz_cp_s, oz_cp_o, oz_w_s, oz_w_n, oz_w_o]; exact o_1 C hi
  · simp (disch := first | assumption | omega) only [oz_cp_s, oz_cp_o, oz_w_s, oz_w_n, oz_w_o]; exact o_2 C hi
theorem c_copyL (hd : q + 2 ≤ r ∨ r + 2 ≤ q) : ∃ t, f_Log_copy q r s = some t ∧ oz_fr (fun p => q ≤ p ∧ p < q + 2) s t ∧ ∀ e, e 11 ≤ 60 → oz_CL s r e → oz_CL t q e := by
  unfold f_Log_copy
  simp (disch := first | assumption | omega) only [lf_lt, pl_0, pl_240, oz_cpk]
  refine ⟨_, rfl, oz_fr_tr (oz_fr_w (by omega)) (oz_fr_cp (by omega)), ?_⟩
  intro e he C
  refine ⟨?_, fun g w hg hw => ?_⟩
  · simp (disch := first | assumption | omega) only [oz_cp_s, oz_cp_o, oz_w_s, oz_w_o]; exact C.1
  · simp (disch := first | assumption | omega) only [oz_cp_s, oz_cp_o, oz_w_s, oz_w_o]; exact C.2 g w hg hw
/-- a holt is copied: r to q -/
theorem c_copy (hd : q + 24 ≤ r ∨ r + 24 ≤ q) (h01 : s.1 r 11 = nI 0 ∨ s.1 r 11 = nI 1) : ∃ t, f_Holt_copy q r s = some t ∧ oz_fr (fun p => q ≤ p ∧ p < q + 24) s t ∧ ∀ e, oz_V e → oz_C s r e → oz_C t q e := by
  obtain ⟨t1, k1, f1, c1⟩ := c_copyB (s := s) (q := q + 1) (r := r + 1) (by omega)
  obtain ⟨t2, k2, f2, c2⟩ := c_copyK (s := t1) (q := q + 6) (r := r + 6) (by omega)
  obtain ⟨t3, k3, f3, c3⟩ := c_copyH (s := t2) (q := q + 15) (r := r + 15) (by omega)
  obtain ⟨t4, k4, f4, c4⟩ := c_copyO (s := t3) (q := q + 18) (r := r + 18) (by omega)
  obtain ⟨t5, k5, f5, c5⟩ := c_copyL (s := t4) (q := q + 21) (r := r + 21) (by omega)
  have hr : ∀ p, r ≤ p → p < r + 24 → t1.1 p = s.1 p ∧ t2.1 p = s.1 p ∧ t3.1 p = s.1 p ∧ t4.1 p = s.1 p ∧ t5.1 p = s.1 p := by
    intro p h1 h2
    have e1 := f1.1 p (by omega)
    have e2 := f2.1 p (by omega)
    have e3 := f3.1 p (by omega)
    have e4 := f4.1 p (by omega)
    have e5 := f5.1 p (by omega)
    exact ⟨e1, e2.trans e1, e3.trans (e2.trans e1), e4.trans (e3.trans (e2.trans e1)), e5.trans (e4.trans (e3.trans (e2.trans e1)))⟩
  have hrr := (hr r (by omega) (by omega)).2.2.2.2
  obtain ⟨u0, hu0⟩ : ∃ u, lf_cp t5 (r + 23) 0 (q + 23) 0 7 = u := ⟨_, rfl⟩
  have g0 : oz_fr (fun p => p = q + 23) t5 u0 := by rw [← hu0]; exact oz_fr_cp rfl
  have gs : ∀ i, i < 7 → u0.1 (q + 23) i = s.1 (r + 23) i := by
    intro i hi
    rw [← hu0, oz_cp_s hi, (hr (r + 23) (by omega) (by omega)).2.2.2.2]
  have hru : u0.1 r = s.1 r := by rw [g0.1 r (by omega)]; exact hrr
  have ne : r ≠ q := by omega
  have hz : ∀ v : Int32, (v = nI 0 ∨ v = nI 1) → ∀ A : Option lf_S, lf_z v A = A := by
    intro v hv A
    unfold lf_z
    rw [if_pos (by rcases hv with rfl | rfl <;> decide +kernel)]
  obtain ⟨u, hu⟩ : ∃ u, lf_w (lf_w (lf_w (lf_w (lf_w (lf_w u0 q 6 (s.1 r 6)) q 7 (s.1 r 7)) q 8 (s.1 r 8)) q 9 (s.1 r 9)) q 10 (s.1 r 10)) q 11 (s.1 r 11) = u := ⟨_, rfl⟩
  have gu : oz_fr (fun p => p = q) u0 u := by
    rw [← hu]
    exact oz_fr_tr (oz_fr_w rfl) (oz_fr_tr (oz_fr_w rfl) (oz_fr_tr (oz_fr_w rfl) (oz_fr_tr (oz_fr_w rfl) (oz_fr_tr (oz_fr_w rfl) (oz_fr_w rfl)))))
  refine ⟨u, ?_, ?_, ?_⟩
  · unfold f_Holt_copy
    simp (disch := first | assumption | omega) only [k1, k2, k3, k4, k5, Option.bind_some, lf_lt, pl_0, pl_7, oz_cpk, hu0, hru, oz_w_o]
    rw [hz _ h01, hu]
  · exact oz_fr_tr (oz_fr_mono f1 (fun p hp => by omega)) (oz_fr_tr (oz_fr_mono f2 (fun p hp => by omega)) (oz_fr_tr (oz_fr_mono f3 (fun p hp => by omega)) (oz_fr_tr (oz_fr_mono f4 (fun p hp => by omega)) (oz_fr_tr (oz_fr_mono f5 (fun p hp => by omega)) (oz_fr_tr (oz_fr_mono g0 (fun p hp => by omega)) (oz_fr_mono gu (fun p hp => by omega)))))))
  · intro e V C
    have h0 := oz_v0 V
    unfold oz_V0 at h0
    obtain ⟨C0, CB, CK, CH, CO, CL, CS⟩ := C
    refine ⟨?_, ?_, ?_, ?_, ?_, ?_, ?_⟩
    · unfold oz_C0 at C0 ⊢
      rw [← hu]
      simp (disch := first | assumption | omega) only [oz_w_s, oz_w_n]
      exact C0
    · refine oz_CB_cg V (c1 e (by omega) CB) (fun p h1 h2 => ?_) rfl oz_eqr_rf
      rw [gu.1 p (by omega), g0.1 p (by omega), f5.1 p (by omega), f4.1 p (by omega), f3.1 p (by omega), f2.1 p (by omega)]
    · refine oz_CK_cg V (c2 e (by omega) (fun k hk => by have := oz_v2 V hk; unfold oz_V2 at this; omega) (oz_CK_cg V CK (fun p h1 h2 => (hr p (by omega) (by omega)).1) rfl oz_eqr_rf)) (fun p h1 h2 => ?_) rfl oz_eqr_rf
      rw [gu.1 p (by omega), g0.1 p (by omega), f5.1 p (by omega), f4.1 p (by omega), f3.1 p (by omega)]
    · refine oz_CH_cg V (c3 e (by omega) (oz_CH_cg V CH (fun p h1 h2 => (hr p (by omega) (by omega)).2.1) rfl oz_eqr_rf)) (fun p h1 h2 => ?_) rfl oz_eqr_rf
      rw [gu.1 p (by omega), g0.1 p (by omega), f5.1 p (by omega), f4.1 p (by omega)]
    · refine oz_CO_cg V (c4 e (by omega) (oz_CO_cg V CO (fun p h1 h2 => (hr p (by omega) (by omega)).2.2.1) rfl oz_eqr_rf)) (fun p h1 h2 => ?_) rfl oz_eqr_rf
      rw [gu.1 p (by omega), g0.1 p (by omega), f5.1 p (by omega)]
    · refine oz_CL_cg V (c5 e (by omega) (oz_CL_cg V CL (fun p h1 h2 => (hr p (by omega) (by omega)).2.2.2.1) rfl oz_eqr_rf)) (fun p h1 h2 => ?_) rfl oz_eqr_rf
      rw [gu.1 p (by omega), g0.1 p (by omega)]
    · intro f h1 h6
      rw [gu.1 _ (by omega), gs f (by omega)]
      exact CS f h1 h6
end
/-! the model's copies -/
def oz_sc (s : lf_S) (b : Nat) (f : Nat → Int32) : lf_S := (fun p => if p = b then f else s.1 p, s.2)
def oz_cpn (f g : Nat → Int32) (q p n : Nat) : Nat → Int32 := fun j => if q ≤ j ∧ j < q + n then g (p + (j - q)) else f j
theorem oz_sc_s {s : lf_S} {b : Nat} {f : Nat → Int32} : (oz_sc s b f).1 b = f := if_pos rfl
theorem oz_sc_o {s : lf_S} {b p : Nat} {f : Nat → Int32} (h : p ≠ b) : (oz_sc s b f).1 p = s.1 p := if_neg h
theorem oz_sc_id {s : lf_S} {b : Nat} : oz_sc s b (s.1 b) = s := by
  refine oz_S_ext (fun p => ?_) rfl
  by_cases c : p = b
  · rw [c]; exact oz_sc_s
  · exact oz_sc_o c
theorem oz_sc_w {s : lf_S} {b k : Nat} {f : Nat → Int32} {v : Int32} : lf_w (oz_sc s b f) b k v = oz_sc s b (upd f k v) := by
  refine oz_S_ext (fun p => ?_) rfl
  by_cases c : p = b
  · subst c
    rw [oz_sc_s]
    show (if p = p then upd ((oz_sc s p f).1 p) k v else _) = _
    rw [if_pos rfl, oz_sc_s]
  · rw [oz_w_o c, oz_sc_o c, oz_sc_o c]
theorem oz_cpn_0 {f g : Nat → Int32} {q p : Nat} : oz_cpn f g q p 0 = f := by
  funext j
  exact if_neg (by omega)
theorem oz_cpn_s {f g : Nat → Int32} {q p n : Nat} : upd (oz_cpn f g q p n) (q + n) (g (p + n)) = oz_cpn f g q p (n + 1) := by
  funext j
  unfold upd oz_cpn
  by_cases c : j = q + n
  · rw [if_pos c, if_pos (by omega), c, show q + n - q = n by omega]
  · rw [if_neg c]
    by_cases c2 : q ≤ j ∧ j < q + n
    · rw [if_pos c2, if_pos (by omega)]
    · rw [if_neg c2, if_neg (by omega)]
theorem oz_cpn_in {f g : Nat → Int32} {q p n j : Nat} (h : j < n) : oz_cpn f g q p n (q + j) = g (p + j) := by
  unfold oz_cpn
  rw [if_pos (by omega), show q + j - q = j by omega]
theorem oz_cpn_out {f g : Nat → Int32} {q p n j : Nat} (h : j < q ∨ q + n ≤ j) : oz_cpn f g q p n j = f j := if_neg (by omega)
/-- a loop that copies from one cell to another one -/
theorem oz_cploop {s : lf_S} {A B q p N : Nat} (hAB : A ≠ B) (L : Nat → Nat → lf_S → Option lf_S) (h0 : ∀ n t, (∀ c, c ≠ B → t.1 c = s.1 c) → L (n + 1) N t = some t) (h1 : ∀ n i t, i < N → (∀ c, c ≠ B → t.1 c = s.1 c) → L (n + 1) i t = L n (i + 1) (lf_w t B (q + i) (t.1 A (p + i)))) (fuel : Nat) (hf : N < fuel) : L fuel 0 s = some (oz_sc s B (oz_cpn (s.1 B) (s.1 A) q p N)) := by
  have key := oz_for (N := N) (fun n i (t : lf_S) => L n i t) (fun i t => lf_w t B (q + i) (t.1 A (p + i))) (fun t => t) s
  obtain ⟨y, k1, k2⟩ := oz_forE (N := N) (fun i (t : lf_S) => t = oz_sc s B (oz_cpn (s.1 B) (s.1 A) q p i)) L (fun t => t) (by
      intro n t ht
      exact h0 n t (fun c hc => by rw [ht]; exact oz_sc_o hc)) (by
      intro n i t hi ht
      refine ⟨_, ?_, h1 n i t hi (fun c hc => by rw [ht]; exact oz_sc_o hc)⟩
      rw [ht, oz_sc_w, oz_sc_o hAB, oz_cpn_s]) N 0 fuel s (by omega) hf (by rw [oz_cpn_0, oz_sc_id])
  rw [k1, k2]
section
variable {s : lf_S} {a : Nat → Nat}
theorem m_putsAside : f_Mod_putsAside s = some (oz_sc s 392 (oz_cpn (s.1 392) (s.1 390) 0 0 366)) := by
  have key := oz_cploop (s := s) (A := 390) (B := 392) (q := 0) (p := 0) (N := 366) (by omega) (fun n i t => f_Mod_putsAside_2 n (nI i) t) (by
      intro n t ht
      simp (disch := first | assumption | omega) only [f_Mod_putsAside_2, lf_lt, Option.bind_some, nI_add, pk_mul, oz_sub, oz_addm1, oz_div, oz_mod, oz_ck, oz_nz, oz_le_t, oz_le_f, oz_lt_t, oz_lt_f, oz_eq_t, oz_eq_f, oz_eqm1, oz_m1eq, oz_neg1, oz_m1lt, oz_ltm1, oz_lem1, oz_m1le, oz_mx, oz_mn, if_true, if_false, ite_true, ite_false, oz_md_r, oz_md_o, oz_md_w, oz_md_wo, oz_md_2, Sum.elim_inl, Sum.elim_inr, pl_0, pl_1, pl_2, pl_3, pl_4, pl_5, pl_6, pl_7, pl_8, pl_9, pl_10, pl_11, pl_12, pl_13, pl_366]) (by
      intro n i t hi ht
      simp (disch := first | assumption | omega) only [f_Mod_putsAside_2, lf_lt, Option.bind_some, nI_add, pk_mul, oz_sub, oz_addm1, oz_div, oz_mod, oz_ck, oz_nz, oz_le_t, oz_le_f, oz_lt_t, oz_lt_f, oz_eq_t, oz_eq_f, oz_eqm1, oz_m1eq, oz_neg1, oz_m1lt, oz_ltm1, oz_lem1, oz_m1le, oz_mx, oz_mn, if_true, if_false, ite_true, ite_false, oz_md_r, oz_md_o, oz_md_w, oz_md_wo, oz_md_2, Sum.elim_inl, Sum.elim_inr, pl_0, pl_1, pl_2, pl_3, pl_4, pl_5, pl_6, pl_7, pl_8, pl_9, pl_10, pl_11, pl_12, pl_13, pl_366, Nat.zero_add]) 5000 (by omega)
  unfold f_Mod_putsAside
  simp only [lf_lt, pl_0]
  rw [key, Option.bind_some]
theorem m_comesBack : f_Mod_comesBack s = some (oz_sc s 390 (oz_cpn (s.1 390) (s.1 392) 0 0 366)) := by
  have key := oz_cploop (s := s) (A := 392) (B := 390) (q := 0) (p := 0) (N := 366) (by omega) (fun n i t => f_Mod_comesBack_2 n (nI i) t) (by
      intro n t ht
      simp (disch := first | assumption | omega) only [f_Mod_comesBack_2, lf_lt, Option.bind_some, nI_add, pk_mul, oz_sub, oz_addm1, oz_div, oz_mod, oz_ck, oz_nz, oz_le_t, oz_le_f, oz_lt_t, oz_lt_f, oz_eq_t, oz_eq_f, oz_eqm1, oz_m1eq, oz_neg1, oz_m1lt, oz_ltm1, oz_lem1, oz_m1le, oz_mx, oz_mn, if_true, if_false, ite_true, ite_false, oz_md_r, oz_md_o, oz_md_w, oz_md_wo, oz_md_2, Sum.elim_inl, Sum.elim_inr, pl_0, pl_1, pl_2, pl_3, pl_4, pl_5, pl_6, pl_7, pl_8, pl_9, pl_10, pl_11, pl_12, pl_13, pl_366]) (by
      intro n i t hi ht
      simp (disch := first | assumption | omega) only [f_Mod_comesBack_2, lf_lt, Option.bind_some, nI_add, pk_mul, oz_sub, oz_addm1, oz_div, oz_mod, oz_ck, oz_nz, oz_le_t, oz_le_f, oz_lt_t, oz_lt_f, oz_eq_t, oz_eq_f, oz_eqm1, oz_m1eq, oz_neg1, oz_m1lt, oz_ltm1, oz_lem1, oz_m1le, oz_mx, oz_mn, if_true, if_false, ite_true, ite_false, oz_md_r, oz_md_o, oz_md_w, oz_md_wo, oz_md_2, Sum.elim_inl, Sum.elim_inr, pl_0, pl_1, pl_2, pl_3, pl_4, pl_5, pl_6, pl_7, pl_8, pl_9, pl_10, pl_11, pl_12, pl_13, pl_366, Nat.zero_add]) 5000 (by omega)
  unfold f_Mod_comesBack
  simp only [lf_lt, pl_0]
  rw [key, Option.bind_some]
theorem m_aside : ∃ t, f_Mod_putsAside (oz_md s a) = some (oz_md t a) ∧ oz_fr (fun p => p = 392) s t ∧ ∀ j, j < 366 → t.1 392 j = nI (a j) := by
  refine ⟨oz_sc s 392 (oz_cpn (s.1 392) (oz_na a) 0 0 366), ?_, ⟨fun p hp => oz_sc_o hp, rfl⟩, fun j hj => ?_⟩
  · rw [m_putsAside]
    refine congrArg some (oz_S_ext (fun p => ?_) rfl)
    by_cases c : p = 392
    · subst c
      have e1 : (oz_md s a).1 392 = s.1 392 := oz_md_o (by omega)
      have e2 : (oz_md s a).1 390 = oz_na a := rfl
      have e3 : ∀ u : lf_S, (oz_md u a).1 392 = u.1 392 := fun u => oz_md_o (by omega)
      rw [oz_sc_s, e1, e2, e3, oz_sc_s]
    · rw [oz_sc_o c]
      by_cases c2 : p = 390
      · subst c2; rfl
      · rw [oz_md_o c2, oz_md_o c2, oz_sc_o c]
  · rw [oz_sc_s]
    have := oz_cpn_in (f := s.1 392) (g := oz_na a) (q := 0) (p := 0) hj
    rw [Nat.zero_add] at this
    exact this
theorem m_back {a' : Nat → Nat} (h : ∀ j, j < 366 → s.1 392 j = nI (a j)) (h2 : ∀ j, 366 ≤ j → a' j = a j) : f_Mod_comesBack (oz_md s a') = some (oz_md s a) := by
  rw [m_comesBack]
  refine congrArg some (oz_S_ext (fun p => ?_) rfl)
  by_cases c : p = 390
  · subst c
    rw [oz_sc_s]
    funext j
    by_cases cj : j < 366
    · have := oz_cpn_in (f := (oz_md s a').1 390) (g := (oz_md s a').1 392) (q := 0) (p := 0) cj
      rw [Nat.zero_add] at this
      rw [this, oz_md_o (by omega), h j cj]; rfl
    · rw [oz_cpn_out (by omega), oz_md_r, h2 j (by omega)]; rfl
  · rw [oz_sc_o c, oz_md_o c, oz_md_o c]
end
