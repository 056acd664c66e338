/-! ===== the line of a basket ===== -/
/-- pairs of runs, at most so many more, c runs told so far -/
def oz_wps (T : Nat → Nat) (len : Nat) : Nat → (Nat → Nat) → Nat → (Nat ⊕ Nat) → (Nat → Nat) × Nat × (Nat ⊕ Nat)
  | 0, R, c, st => (R, c, st)
  | k + 1, R, c, st => if oz_isN T len (oz_nmS T len 1 (nI 4) (oz_nmS T len 1 (nI 4) st)) = true then oz_wps T len k (oz_up (oz_up R c (oz_nmV T len 1 (nI 4) st)) (c + 1) (oz_nmV T len 1 (nI 4) (oz_nmS T len 1 (nI 4) st))) (c + 2) (oz_nmS T len 1 (nI 4) (oz_nmS T len 1 (nI 4) st)) else (oz_up (oz_up R c (oz_nmV T len 1 (nI 4) st)) (c + 1) (oz_nmV T len 1 (nI 4) (oz_nmS T len 1 (nI 4) st)), c + 2, oz_nmS T len 1 (nI 4) (oz_nmS T len 1 (nI 4) st))
def oz_bs1 (T : Nat → Nat) (len : Nat) (st : Nat ⊕ Nat) : Nat ⊕ Nat := oz_nmS T len 3 (nI 24) (oz_ndW T len 47 st)
def oz_bs2 (T : Nat → Nat) (len : Nat) (st : Nat ⊕ Nat) : Nat ⊕ Nat := oz_nmS T len 1 (nI 20) (oz_ndW T len 48 (oz_bs1 T len st))
def oz_bsw (T : Nat → Nat) (len : Nat) (st : Nat ⊕ Nat) : (Nat → Nat) × Nat × (Nat ⊕ Nat) := oz_wps T len 3 (fun _ => 0) 0 (oz_ndW T len 49 (oz_bs2 T len st))
def oz_bs3 (T : Nat → Nat) (len : Nat) (st : Nat ⊕ Nat) : Nat ⊕ Nat := oz_nmS T len 1 (nI 6) (oz_ndW T len 50 (oz_bsw T len st).2.2)
def oz_bs4 (T : Nat → Nat) (len : Nat) (st : Nat ⊕ Nat) : Nat ⊕ Nat := oz_nmS T len 0 (nI 99) (oz_ndW T len 51 (oz_bs3 T len st))
def oz_bsv (T : Nat → Nat) (len : Nat) (st : Nat ⊕ Nat) : Nat × Nat × Nat × Nat := (oz_nmV T len 3 (nI 24) (oz_ndW T len 47 st), oz_nmV T len 1 (nI 20) (oz_ndW T len 48 (oz_bs1 T len st)), oz_nmV T len 1 (nI 6) (oz_ndW T len 50 (oz_bsw T len st).2.2), oz_nmV T len 0 (nI 99) (oz_ndW T len 51 (oz_bs3 T len st)))
/-- a basket's weave as far as it is told -/
def oz_WV (s t : lf_S) (q n : Nat) (R : Nat → Nat) (c : Nat) : Prop := t.1 (q + 5) n = nI c ∧ t.1 (q + 6) n = nI (oz_sum R c) ∧ t.1 (q + 8) n = nI (oz_obn R c) ∧ (∀ i, i < c → t.1 (q + 7) (6 * n + i) = nI (R i)) ∧ (∀ p, p ≠ 1 → (p < q + 5 ∨ q + 8 < p) → t.1 p = s.1 p) ∧ (∀ p i, (p = q + 5 ∨ p = q + 6 ∨ p = q + 8) → i ≠ n → t.1 p i = s.1 p i) ∧ (∀ i, i < 6 * n → t.1 (q + 7) i = s.1 (q + 7) i) ∧ t.2 = s.2
def oz_KN (s u : lf_S) (q n : Nat) (v : Nat × Nat × Nat × Nat) (R : Nat → Nat) (c : Nat) : Prop := u.1 q 0 = nI (n + 1) ∧ u.1 (q + 1) n = nI v.1 ∧ u.1 (q + 2) n = nI v.2.1 ∧ u.1 (q + 3) n = nI v.2.2.1 ∧ u.1 (q + 4) n = nI v.2.2.2 ∧ u.1 (q + 5) n = nI c ∧ u.1 (q + 6) n = nI (oz_sum R c) ∧ u.1 (q + 8) n = nI (oz_obn R c) ∧ (∀ i, i < c → u.1 (q + 7) (6 * n + i) = nI (R i)) ∧ (∀ p, p ≠ 1 → (p < q ∨ q + 8 < p) → u.1 p = s.1 p) ∧ (∀ p i, q < p → p ≤ q + 8 → p ≠ q + 7 → i ≠ n → u.1 p i = s.1 p i) ∧ (∀ i, i < 6 * n → u.1 (q + 7) i = s.1 (q + 7) i) ∧ u.2 = s.2
theorem oz_obn_cg {R R' : Nat → Nat} : ∀ n, (∀ i, i < n → R i = R' i) → oz_obn R n = oz_obn R' n := by
  intro n
  induction n with
  | zero => intro _; rfl
  | succ n ih =>
    intro h
    unfold oz_obn
    rw [ih (fun i hi => h i (by omega)), h n (by omega), oz_sum_congr (f := R) (g := R') (fun i hi => h i (by omega))]
theorem oz_sum_up {R : Nat → Nat} {c v : Nat} : oz_sum (oz_up R c v) (c + 1) = oz_sum R c + v := by
  show oz_sum (oz_up R c v) c + oz_up R c v c = _
  rw [oz_up_s, oz_sum_congr (g := R) (fun i hi => oz_up_n (by omega))]
theorem oz_obn_up {R : Nat → Nat} {c v : Nat} : oz_obn (oz_up R c v) (c + 1) = if c % 2 = 0 then oz_obn R c ||| ((2 ^ v - 1) * 2 ^ oz_sum R c) else oz_obn R c := by
  show (if c % 2 = 0 then oz_obn (oz_up R c v) c ||| ((2 ^ (oz_up R c v) c - 1) * 2 ^ oz_sum (oz_up R c v) c) else oz_obn (oz_up R c v) c) = _
  rw [oz_up_s, oz_sum_congr (g := R) (fun i hi => oz_up_n (by omega)), oz_obn_cg (R := oz_up R c v) (R' := R) c (fun i hi => oz_up_n (by omega))]
theorem oz_wps_l {T : Nat → Nat} {len q : Nat} : ∀ k R c, (oz_wps T len k R c (Sum.inl q)).2.2 = Sum.inl q := by
  intro k R c
  cases k with
  | zero => rfl
  | succ k =>
    unfold oz_wps
    rw [if_neg (show ¬ (oz_isN T len (oz_nmS T len 1 (nI 4) (oz_nmS T len 1 (nI 4) (Sum.inl q))) = true) from Bool.noConfusion)]
    rfl
section
variable {s t : lf_S} {T : Nat → Nat} {len : Nat}
theorem oz_CX_l {st : Nat ⊕ Nat} (X : oz_CX s T len st) : ∀ p, st = Sum.inr p → p ≤ len := by
  intro p hp
  rw [hp] at X
  exact X.2.2.2.2.2.1
theorem c_addRun {q n c v : Nat} {R : Nat → Nat} (W : oz_WV s t q n R c) (hq : 10 ≤ q) (hn : n < 5) (hc : c < 6) (hR : ∀ i, i < c → 1 ≤ R i ∧ R i ≤ 4) (hv : 1 ≤ v ∧ v ≤ 4) : ∃ u, f_Baskets_addRun q (nI n) (nI v) t = some u ∧ oz_WV s u q n (oz_up R c v) (c + 1) ∧ u.1 1 = t.1 1 ∧ u.1 2 = t.1 2 := by
  obtain ⟨w5, w6, w8, w7, wf, wi, wr, w2⟩ := W
  have hs : oz_sum R c ≤ c * 4 := oz_sum_le (fun i hi => (hR i hi).2)
  have ho : oz_obn R c < 2 ^ oz_sum R c := oz_obn_lt
  have ho2 : 2 ^ oz_sum R c ≤ 2 ^ 20 := Nat.pow_le_pow_right (by omega) (by omega)
  have hv2 : 2 ^ v ≤ 2 ^ 4 := Nat.pow_le_pow_right (by omega) hv.2
  have hv1 : 1 ≤ 2 ^ v := Nat.one_le_two_pow
  have hm : (2 ^ v - 1) * 2 ^ oz_sum R c ≤ 15 * 2 ^ 20 := Nat.mul_le_mul (by omega) ho2
  have e6 : n * 6 + c = 6 * n + c := by omega
  have fin : ∀ x : lf_S, (∀ p, p ≠ q + 8 → x.1 p = t.1 p) → x.1 (q + 8) n = nI (oz_obn (oz_up R c v) (c + 1)) → (∀ i, i ≠ n → x.1 (q + 8) i = t.1 (q + 8) i) → x.2 = t.2 → ∃ u, some (lf_w (lf_w (lf_w x (q + 7) (n * 6 + c) (nI v)) (q + 6) n (nI (oz_sum R c + v))) (q + 5) n (nI (c + 1))) = some u ∧ oz_WV s u q n (oz_up R c v) (c + 1) ∧ u.1 1 = t.1 1 ∧ u.1 2 = t.1 2 := by
    intro x hx hx8 hxi hx2
    refine ⟨_, rfl, ⟨oz_w_s, ?_, ?_, fun i hi => ?_, fun p h1 h2 => ?_, fun p i h1 h2 => ?_, fun i hi => ?_, ?_⟩, ?_, ?_⟩
    · rw [oz_w_o (by omega), oz_w_s, oz_sum_up]
    · rw [oz_w_o (by omega), oz_w_o (by omega), oz_w_o (by omega)]; exact hx8
    · rw [oz_w_o (by omega), oz_w_o (by omega), e6]
      by_cases ci : i = c
      · rw [ci, oz_w_s, oz_up_s]
      · rw [oz_w_n (by omega), oz_up_n ci, hx _ (by omega)]; exact w7 i (by omega)
    · rw [oz_w_o (by omega), oz_w_o (by omega), oz_w_o (by omega), hx p (by omega)]; exact wf p h1 h2
    · rw [← wi p i h1 h2]
      rcases h1 with h1 | h1 | h1
      · rw [h1, oz_w_n h2, oz_w_o (by omega), oz_w_o (by omega), hx _ (by omega)]
      · rw [h1, oz_w_o (by omega), oz_w_n h2, oz_w_o (by omega), hx _ (by omega)]
      · rw [h1, oz_w_o (by omega), oz_w_o (by omega), oz_w_o (by omega)]; exact hxi i h2
    · rw [oz_w_o (by omega), oz_w_o (by omega), oz_w_n (by omega), hx _ (by omega)]; exact wr i hi
    · show x.2 = s.2
      rw [hx2]; exact w2
    · rw [oz_w_o (by omega), oz_w_o (by omega), oz_w_o (by omega), hx _ (by omega)]
    · rw [oz_w_o (by omega), oz_w_o (by omega), oz_w_o (by omega), hx _ (by omega)]
  unfold f_Baskets_addRun
  have e2 : nI c % nI 2 = nI (c % 2) := oz_mod (by omega) (by omega) (by omega)
  simp only [lf_lt]
  rw [pl_1, pl_2, pl_6, pl_31, oz_ck hn (by omega), w5, oz_ilt_t hc (by omega), e2]
  by_cases cc : c % 2 = 0
  · rw [if_pos (show nI (c % 2) = (0 : Int32) by rw [cc]; rfl)]
    have e8 : nI (oz_obn R c) ||| ((nI 1 <<< (nI v &&& nI 31) - nI 1) <<< (nI (oz_sum R c) &&& nI 31)) = nI (oz_obn (oz_up R c v) (c + 1)) := by
      rw [oz_shl1 (by omega), oz_sub hv1, oz_shl (by omega) (by omega), oz_bvor (by omega) (by omega), oz_obn_up, if_pos cc]
    obtain ⟨u, f1, f2⟩ := fin (lf_w t (q + 8) n (nI (oz_obn (oz_up R c v) (c + 1)))) (fun p hp => oz_w_o hp) oz_w_s (fun i hi => oz_w_n hi) rfl
    refine ⟨u, ?_, f2⟩
    rw [← f1]
    rw [oz_ck hn (by omega), oz_ck hn (by omega), oz_ck hn (by omega), w8, w6, e8, pk_mul, nI_add, oz_ck (by omega) (by omega), oz_ck hn (by omega), oz_ck hn (by omega), oz_w_o (by omega), oz_w_o (by omega), w6, nI_add, oz_ck hn (by omega), oz_ck hn (by omega), oz_w_o (by omega), oz_w_o (by omega), oz_w_o (by omega), w5, nI_add]
  · rw [if_neg (show ¬ (nI (c % 2) = (0 : Int32)) by rw [pl_0, oz_eq (by omega) (by omega)]; exact cc)]
    obtain ⟨u, f1, f2⟩ := fin t (fun p hp => rfl) (by rw [w8, oz_obn_up, if_neg cc]) (fun i hi => rfl) rfl
    refine ⟨u, ?_, f2⟩
    rw [← f1]
    rw [pk_mul, nI_add, oz_ck (by omega) (by omega), oz_ck hn (by omega), oz_ck hn (by omega), oz_w_o (by omega), w6, nI_add, oz_ck hn (by omega), oz_ck hn (by omega), oz_w_o (by omega), oz_w_o (by omega), w5, nI_add]
theorem oz_WV_fr {u : lf_S} {q n c : Nat} {R : Nat → Nat} (W : oz_WV s t q n R c) (hq : 10 ≤ q) (f : oz_fr (fun p => p = 1) t u) : oz_WV s u q n R c := by
  obtain ⟨w5, w6, w8, w7, wf, wi, wr, w2⟩ := W
  refine ⟨?_, ?_, ?_, fun i hi => ?_, fun p h1 h2 => ?_, fun p i h1 h2 => ?_, fun i hi => ?_, f.2.trans w2⟩
  · rw [f.1 _ (by omega)]; exact w5
  · rw [f.1 _ (by omega)]; exact w6
  · rw [f.1 _ (by omega)]; exact w8
  · rw [f.1 _ (by omega)]; exact w7 i hi
  · rw [f.1 _ h1]; exact wf p h1 h2
  · rw [f.1 _ (by omega)]; exact wi p i h1 h2
  · rw [f.1 _ (by omega)]; exact wr i hi
theorem oz_upR {R : Nat → Nat} {c v w : Nat} (hR : ∀ i, i < c → 1 ≤ R i ∧ R i ≤ 4) (hv : 1 ≤ v ∧ v ≤ 4) (hw : 1 ≤ w ∧ w ≤ 4) : ∀ i, i < c + 2 → 1 ≤ (oz_up (oz_up R c v) (c + 1) w) i ∧ (oz_up (oz_up R c v) (c + 1) w) i ≤ 4 := by
  intro i hi
  by_cases c1 : i = c + 1
  · rw [c1, oz_up_s]; exact hw
  · rw [oz_up_n c1]
    by_cases c2 : i = c
    · rw [c2, oz_up_s]; exact hv
    · rw [oz_up_n c2]; exact hR i (by omega)
theorem c_pairs62 {q n : Nat} (hq : 10 ≤ q) (hn : n < 5) : ∀ k i R c st (t : lf_S) fuel, i + k = 3 → c = 2 * i → k < fuel → oz_CX t T len st → oz_WV s t q n R c → (∀ j, j < c → 1 ≤ R j ∧ R j ≤ 4) → ∃ u x, x = (if i = 0 ∨ oz_isN T len st = true then oz_wps T len k R c st else (R, c, st)) ∧ f_HoltText_readBasket_62 q (nI n) fuel (nI i) t = some u ∧ oz_CX u T len x.2.2 ∧ oz_WV s u q n x.1 x.2.1 ∧ (∀ j, j < x.2.1 → 1 ≤ x.1 j ∧ x.1 j ≤ 4) ∧ c ≤ x.2.1 ∧ x.2.1 ≤ 6 ∧ (i = 0 → 2 ≤ x.2.1) := by
  intro k
  induction k with
  | zero =>
    intro i R c st t fuel hi hc hf X W hR
    obtain ⟨fuel, rfl⟩ : ∃ m, fuel = m + 1 := ⟨fuel - 1, by omega⟩
    refine ⟨t, (R, c, st), ?_, ?_, X, W, hR, Nat.le_refl _, by show c ≤ 6; omega, fun h => by omega⟩
    · split <;> rfl
    · rw [f_HoltText_readBasket_62, pl_3, oz_ile_t (by omega) (by omega)]
  | succ k ih =>
    intro i R c st t fuel hi hc hf X W hR
    obtain ⟨fuel, rfl⟩ : ∃ m, fuel = m + 1 := ⟨fuel - 1, by omega⟩
    have b1 := oz_nmV_le (T := T) (len := len) (lo := 1) (h := 4) (by omega) (by omega) (oz_CX_l X)
    obtain ⟨t1, a1, a2, a3⟩ := c_takeNumber X (lo := 1) (hi := nI 4) (by omega)
    obtain ⟨t2, d1, d2, d3, d4⟩ := c_addRun (oz_WV_fr W hq a3) hq hn (by omega) hR b1
    have X2 := oz_CX_fr a2 d3 d4
    have b2 := oz_nmV_le (T := T) (len := len) (lo := 1) (h := 4) (by omega) (by omega) (oz_CX_l X2)
    obtain ⟨t3, e1, e2, e3⟩ := c_takeNumber X2 (lo := 1) (hi := nI 4) (by omega)
    obtain ⟨t4, g1, g2, g3, g4⟩ := c_addRun (oz_WV_fr d2 hq e3) hq hn (by omega) (fun j hj => by
      by_cases cj : j = c
      · rw [cj, oz_up_s]; exact b1
      · rw [oz_up_n cj]; exact hR j (by omega)) b2
    have X4 := oz_CX_fr e2 g3 g4
    obtain ⟨u, x, l1, l2, l3, l4, l5, l6, l7, l8⟩ := ih (i + 1) _ (c + 2) _ t4 fuel (by omega) (by omega) (by omega) X4 g2 (oz_upR hR b1 b2)
    have nx : x = oz_wps T len (k + 1) R c st := by
      rw [l1]
      show _ = (if oz_isN T len (oz_nmS T len 1 (nI 4) (oz_nmS T len 1 (nI 4) st)) = true then _ else _)
      by_cases cN : oz_isN T len (oz_nmS T len 1 (nI 4) (oz_nmS T len 1 (nI 4) st)) = true
      · rw [if_pos cN, if_pos (Or.inr cN)]
      · rw [if_neg cN, if_neg (fun z => z.elim (by omega) cN)]
    by_cases c0 : i = 0
    · refine ⟨u, x, by rw [if_pos (Or.inl c0)]; exact nx, ?_, l3, l4, l5, by omega, l7, fun _ => by omega⟩
      rw [f_HoltText_readBasket_62, pl_3, oz_ile_f (by omega) (by omega), if_pos (show nI i = (0 : Int32) by rw [c0]; rfl)]
      simp only [lf_lt, pl_1, pl_4, a1, d1, e1, g1, Option.bind_some, nI_add]
      exact l2
    · have isn := c_isNumber X
      have e0 : ¬ (nI i = (0 : Int32)) := by rw [pl_0, oz_eq (by omega) (by omega)]; exact c0
      by_cases cN : oz_isN T len st = true
      · refine ⟨u, x, by rw [if_pos (Or.inr cN)]; exact nx, ?_, l3, l4, l5, by omega, l7, fun h => absurd h c0⟩
        rw [f_HoltText_readBasket_62, pl_3, oz_ile_f (by omega) (by omega), if_neg e0, isn, cN, Option.bind_some, if_pos rfl]
        simp only [lf_lt, pl_1, pl_4, a1, d1, e1, g1, Option.bind_some, nI_add]
        exact l2
      · refine ⟨t, (R, c, st), by rw [if_neg (fun z => z.elim c0 cN)], ?_, X, W, hR, Nat.le_refl _, by show c ≤ 6; omega, fun h => absurd h c0⟩
        rw [f_HoltText_readBasket_62, pl_3, oz_ile_f (by omega) (by omega), if_neg e0, isn, Option.bind_some, if_neg cN]
theorem oz_upd_n {f : Nat → Int32} {k i : Nat} {v : Int32} (h : i ≠ k) : upd f k v i = f i := pk_un h
theorem c_readBasket {st : Nat ⊕ Nat} (X : oz_CX s T len st) {q n : Nat} (hq : 10 ≤ q) (hn : n < 5) (h : s.1 q 0 = nI n) : ∃ u, f_HoltText_readBasket q s = some u ∧ oz_CX u T len (oz_bs4 T len (oz_ndW T len 33 st)) ∧ oz_KN s u q n (oz_bsv T len (oz_ndW T len 33 st)) (oz_bsw T len (oz_ndW T len 33 st)).1 (oz_bsw T len (oz_ndW T len 33 st)).2.1 ∧ (∀ j, j < (oz_bsw T len (oz_ndW T len 33 st)).2.1 → 1 ≤ (oz_bsw T len (oz_ndW T len 33 st)).1 j ∧ (oz_bsw T len (oz_ndW T len 33 st)).1 j ≤ 4) ∧ 2 ≤ (oz_bsw T len (oz_ndW T len 33 st)).2.1 ∧ (oz_bsw T len (oz_ndW T len 33 st)).2.1 ≤ 6 := by
  obtain ⟨u1, a1, a2, a3⟩ := c_needWord X 33 (by decide +kernel)
  obtain ⟨u2, b1, b2, b3⟩ := c_needWord a2 47 (by decide +kernel)
  obtain ⟨u3, d1, d2, d3⟩ := c_takeNumber b2 (lo := 3) (hi := nI 24) (by omega)
  have A2 := oz_fr_tr a3 (oz_fr_tr b3 d3)
  have X2 : oz_CX (lf_w u3 (q + 1) n (nI (oz_nmV T len 3 (nI 24) (oz_ndW T len 47 (oz_ndW T len 33 st))))) T len (oz_bs1 T len (oz_ndW T len 33 st)) := oz_CX_fr d2 (oz_w_o (by omega)) (oz_w_o (by omega))
  obtain ⟨u4, e1, e2, e3⟩ := c_needWord X2 48 (by decide +kernel)
  obtain ⟨u5, f1, f2, f3⟩ := c_takeNumber e2 (lo := 1) (hi := nI 20) (by omega)
  have A4 := oz_fr_tr e3 f3
  have X4 : oz_CX (lf_w u5 (q + 2) n (nI (oz_nmV T len 1 (nI 20) (oz_ndW T len 48 (oz_bs1 T len (oz_ndW T len 33 st)))))) T len (oz_bs2 T len (oz_ndW T len 33 st)) := oz_CX_fr f2 (oz_w_o (by omega)) (oz_w_o (by omega))
  obtain ⟨t0, g1, g2, A0⟩ := c_needWord X4 49 (by decide +kernel)
  have X5 : oz_CX (lf_w (lf_w (lf_w t0 (q + 5) n (nI 0)) (q + 6) n (nI 0)) (q + 8) n (nI 0)) T len (oz_ndW T len 49 (oz_bs2 T len (oz_ndW T len 33 st))) := oz_CX_fr g2 (by rw [oz_w_o (by omega), oz_w_o (by omega), oz_w_o (by omega)]) (by rw [oz_w_o (by omega), oz_w_o (by omega), oz_w_o (by omega)])
  have W0 : oz_WV t0 (lf_w (lf_w (lf_w t0 (q + 5) n (nI 0)) (q + 6) n (nI 0)) (q + 8) n (nI 0)) q n (fun _ => 0) 0 := by
    refine ⟨by rw [oz_w_o (by omega), oz_w_o (by omega), oz_w_s], by rw [oz_w_o (by omega), oz_w_s]; rfl, oz_w_s, fun i hi => absurd hi (by omega), fun p h1 h2 => by rw [oz_w_o (by omega), oz_w_o (by omega), oz_w_o (by omega)], fun p i h1 h2 => ?_, fun i hi => by rw [oz_w_o (by omega), oz_w_o (by omega), oz_w_o (by omega)], rfl⟩
    rcases h1 with h1 | h1 | h1
    · rw [h1, oz_w_o (by omega), oz_w_o (by omega), oz_w_n h2]
    · rw [h1, oz_w_o (by omega), oz_w_n h2, oz_w_o (by omega)]
    · rw [h1, oz_w_n h2, oz_w_o (by omega), oz_w_o (by omega)]
  obtain ⟨u6, x, ex, k1, k2, k3, k4, k5, k6, k7⟩ := c_pairs62 (s := t0) hq hn 3 0 _ 0 _ _ 5000 rfl rfl (by omega) X5 W0 (fun j hj => absurd hj (by omega))
  rw [if_pos (Or.inl rfl)] at ex
  have ex' : x = oz_bsw T len (oz_ndW T len 33 st) := ex
  rw [ex'] at k2 k3 k4 k5 k6 k7
  obtain ⟨u7, i1, i2, i3⟩ := c_needWord k2 50 (by decide +kernel)
  obtain ⟨u8, j1, j2, j3⟩ := c_takeNumber i2 (lo := 1) (hi := nI 6) (by omega)
  have A7 := oz_fr_tr i3 j3
  have X8 : oz_CX (lf_w u8 (q + 3) n (nI (oz_nmV T len 1 (nI 6) (oz_ndW T len 50 (oz_bsw T len (oz_ndW T len 33 st)).2.2)))) T len (oz_bs3 T len (oz_ndW T len 33 st)) := oz_CX_fr j2 (oz_w_o (by omega)) (oz_w_o (by omega))
  obtain ⟨u9, l1, l2, l3⟩ := c_needWord X8 51 (by decide +kernel)
  obtain ⟨u10, m1, m2, m3⟩ := c_takeNumber l2 (lo := 0) (hi := nI 99) (by omega)
  have A9 := oz_fr_tr l3 m3
  have n0 : (u10.1 q 0) = nI n := by
    rw [A9.1 q (by omega), oz_w_o (by omega), A7.1 q (by omega), k3.2.2.2.2.1 q (by omega) (by omega), A0.1 q (by omega), oz_w_o (by omega), A4.1 q (by omega), oz_w_o (by omega), A2.1 q (by omega)]
    exact h
  refine ⟨lf_w (lf_w u10 (q + 4) n (nI (oz_nmV T len 0 (nI 99) (oz_ndW T len 51 (oz_bs3 T len (oz_ndW T len 33 st)))))) q 0 (nI (n + 1)), ?_, oz_CX_fr m2 (by rw [oz_w_o (by omega), oz_w_o (by omega)]) (by rw [oz_w_o (by omega), oz_w_o (by omega)]), ?_, k4, k7 rfl, k6⟩
  · unfold f_HoltText_readBasket f_Baskets_beginWeave
    simp only [lf_lt]
    rw [h, a1, Option.bind_some, b1, Option.bind_some, pl_3, pl_24, d1, Option.bind_some, oz_ck hn (by omega)]
    try dsimp only
    rw [e1, Option.bind_some, pl_1, pl_20, f1, Option.bind_some, oz_ck hn (by omega)]
    try dsimp only
    rw [g1, Option.bind_some, oz_ck hn (by omega), oz_ck hn (by omega), oz_ck hn (by omega), Option.bind_some, pl_0, k1, Option.bind_some, i1, Option.bind_some, pl_6, j1, Option.bind_some, oz_ck hn (by omega)]
    try dsimp only
    rw [l1, Option.bind_some, pl_99, m1, Option.bind_some, oz_ck hn (by omega)]
    try dsimp only
    rw [oz_w_o (by omega), n0, nI_add]
  · obtain ⟨w5, w6, w8, w7, wf, wi, wr, w2⟩ := k3
    refine ⟨oz_w_s, ?_, ?_, ?_, ?_, ?_, ?_, ?_, fun i hi => ?_, fun p p1 p2 => ?_, fun p i p1 p2 p3 p4 => ?_, fun i hi => ?_, ?_⟩
    · rw [oz_w_o (by omega), oz_w_o (by omega), A9.1 _ (by omega), oz_w_o (by omega), A7.1 _ (by omega), wf _ (by omega) (by omega), A0.1 _ (by omega), oz_w_o (by omega), A4.1 _ (by omega), oz_w_s]; rfl
    · rw [oz_w_o (by omega), oz_w_o (by omega), A9.1 _ (by omega), oz_w_o (by omega), A7.1 _ (by omega), wf _ (by omega) (by omega), A0.1 _ (by omega), oz_w_s]; rfl
    · rw [oz_w_o (by omega), oz_w_o (by omega), A9.1 _ (by omega), oz_w_s]; rfl
    · rw [oz_w_o (by omega), oz_w_s]; rfl
    · rw [oz_w_o (by omega), oz_w_o (by omega), A9.1 _ (by omega), oz_w_o (by omega), A7.1 _ (by omega)]; exact w5
    · rw [oz_w_o (by omega), oz_w_o (by omega), A9.1 _ (by omega), oz_w_o (by omega), A7.1 _ (by omega)]; exact w6
    · rw [oz_w_o (by omega), oz_w_o (by omega), A9.1 _ (by omega), oz_w_o (by omega), A7.1 _ (by omega)]; exact w8
    · rw [oz_w_o (by omega), oz_w_o (by omega), A9.1 _ (by omega), oz_w_o (by omega), A7.1 _ (by omega)]; exact w7 i hi
    · rw [oz_w_o (by omega), oz_w_o (by omega), A9.1 _ p1, oz_w_o (by omega), A7.1 _ p1, wf _ p1 (by omega), A0.1 _ p1, oz_w_o (by omega), A4.1 _ p1, oz_w_o (by omega), A2.1 _ p1]
    · have z9 : (lf_w (lf_w u10 (q + 4) n (nI (oz_nmV T len 0 (nI 99) (oz_ndW T len 51 (oz_bs3 T len (oz_ndW T len 33 st)))))) q 0 (nI (n + 1))).1 p i = (lf_w u8 (q + 3) n (nI (oz_nmV T len 1 (nI 6) (oz_ndW T len 50 (oz_bsw T len (oz_ndW T len 33 st)).2.2)))).1 p i := by
        rw [oz_w_o (by omega)]
        by_cases c : p = q + 4
        · rw [c, oz_w_n p4, A9.1 _ (by omega)]
        · rw [oz_w_o c, A9.1 _ (by omega)]
      have z8 : (lf_w u8 (q + 3) n (nI (oz_nmV T len 1 (nI 6) (oz_ndW T len 50 (oz_bsw T len (oz_ndW T len 33 st)).2.2)))).1 p i = u6.1 p i := by
        by_cases c : p = q + 3
        · rw [c, oz_w_n p4, A7.1 _ (by omega)]
        · rw [oz_w_o c, A7.1 _ (by omega)]
      have z6 : u6.1 p i = t0.1 p i := by
        by_cases c : p < q + 5
        · rw [wf p (by omega) (by omega)]
        · exact wi p i (by omega) p4
      rw [z9, z8, z6, A0.1 _ (by omega)]
      by_cases c : p = q + 2
      · rw [c, oz_w_n p4, A4.1 _ (by omega), oz_w_o (by omega), A2.1 _ (by omega)]
      · rw [oz_w_o c, A4.1 _ (by omega)]
        by_cases c2 : p = q + 1
        · rw [c2, oz_w_n p4, A2.1 _ (by omega)]
        · rw [oz_w_o c2, A2.1 _ (by omega)]
    · rw [oz_w_o (by omega), oz_w_o (by omega), A9.1 _ (by omega), oz_w_o (by omega), A7.1 _ (by omega), wr i hi, A0.1 _ (by omega), oz_w_o (by omega), A4.1 _ (by omega), oz_w_o (by omega), A2.1 _ (by omega)]
    · show u10.2 = s.2
      rw [A9.2]
      show u8.2 = s.2
      rw [A7.2, w2, A0.2]
      show u5.2 = s.2
      rw [A4.2]
      show u3.2 = s.2
      exact A2.2
end
