/-! ===== the tape fed and cut off ===== -/
/-- the byte of x that stands v bits up -/
def oz_by (x : Int32) (v : Nat) : Nat := ((lf_us x (nI v)) &&& (nI 255)).toBitVec.toNat
theorem oz_by_i {x : Int32} {v : Nat} : (lf_us x (nI v)) &&& (nI 255) = nI (oz_by x v) := oz_all _
theorem oz_by_le {x : Int32} {v : Nat} : oz_by x v ≤ 255 := by
  unfold oz_by
  have : ((lf_us x (nI v)) &&& (nI 255)).toBitVec = (lf_us x (nI v)).toBitVec &&& (nI 255).toBitVec := rfl
  rw [this, BitVec.toNat_and]
  refine Nat.le_trans Nat.and_le_right ?_
  decide +kernel
def oz_d8 : Nat → Int32
  | 0 => -8
  | j + 1 => nI (8 * j)
theorem oz_d8_s : ∀ j, j < 4 → nI (8 * j) + (-8 : Int32) = oz_d8 j := by decide +kernel
theorem oz_d8_l : (oz_d8 0 < (0 : Int32)) = True := eq_true (by decide +kernel)
section
variable {s : lf_S}
theorem c_push3 {x : Int32} : ∀ j n (s : lf_S) fuel, j ≤ 4 → n + j ≤ 400 → j < fuel → s.1 1 1 = nI n → ∃ t, f_Tape_push_3 x fuel (oz_d8 j) s = some t ∧ t.1 1 1 = nI (n + j) ∧ (∀ i, i < j → t.1 2 (n + i) = nI (oz_by x (8 * (j - 1 - i)))) ∧ (∀ i, i < n → t.1 2 i = s.1 2 i) ∧ oz_fr (fun p => p = 1 ∨ p = 2) s t ∧ ∀ i, i ≠ 1 → t.1 1 i = s.1 1 i := by
  intro j
  induction j with
  | zero =>
    intro n s fuel _ _ hf h
    obtain ⟨fuel, rfl⟩ : ∃ m, fuel = m + 1 := ⟨fuel - 1, by omega⟩
    refine ⟨s, ?_, h, fun i hi => absurd hi (by omega), fun _ _ => rfl, oz_fr_rf, fun _ _ => rfl⟩
    rw [f_Tape_push_3, if_pos (of_eq_true oz_d8_l)]
  | succ j ih =>
    intro n s fuel hj hn hf h
    obtain ⟨fuel, rfl⟩ : ∃ m, fuel = m + 1 := ⟨fuel - 1, by omega⟩
    obtain ⟨t, k1, k2, k3, k4, k5, k6⟩ := ih (n + 1) (lf_w (lf_w s 2 n (nI (oz_by x (8 * j)))) 1 1 (nI (n + 1))) fuel (by omega) (by omega) (by omega) oz_w_s
    refine ⟨t, ?_, by rw [k2]; congr 1; omega, fun i hi => ?_, fun i hi => ?_, oz_fr_tr (oz_fr_tr (oz_fr_w (by omega)) (oz_fr_w (by omega))) k5, fun i hi => ?_⟩
    · rw [f_Tape_push_3, show oz_d8 (j + 1) = nI (8 * j) from rfl, pl_0, oz_ilt_f (by omega) (by omega), h, pl_400, oz_ile_f (by omega) (by omega), oz_ck (by omega) (by omega), pl_255, oz_by_i]
      simp only [lf_lt]
      rw [oz_w_o (by omega), h, pl_1, nI_add, oz_d8_s j (by omega)]
      exact k1
    · by_cases c : i = 0
      · rw [c, Nat.add_zero, k4 n (by omega), oz_w_o (by omega), oz_w_s]
        rfl
      · have := k3 (i - 1) (by omega)
        rw [show n + 1 + (i - 1) = n + i by omega, show j - 1 - (i - 1) = j + 1 - 1 - i by omega] at this
        exact this
    · rw [k4 i (by omega), oz_w_o (by omega), oz_w_n (by omega)]
    · rw [k6 i hi, oz_w_n hi, oz_w_o (by omega)]
theorem c_push {x : Int32} {n : Nat} (hn : n + 4 ≤ 400) (h : s.1 1 1 = nI n) : ∃ t, f_Tape_push x s = some t ∧ t.1 1 1 = nI (n + 4) ∧ (∀ i, i < 4 → t.1 2 (n + i) = nI (oz_by x (24 - 8 * i))) ∧ (∀ i, i < n → t.1 2 i = s.1 2 i) ∧ oz_fr (fun p => p = 1 ∨ p = 2) s t ∧ ∀ i, i ≠ 1 → t.1 1 i = s.1 1 i := by
  obtain ⟨t, k1, k2, k3, k4, k5, k6⟩ := c_push3 (x := x) 4 n s 5000 (by omega) hn (by omega) h
  refine ⟨t, ?_, k2, fun i hi => by rw [k3 i hi]; congr 2; omega, k4, k5, k6⟩
  unfold f_Tape_push
  simp only [lf_lt, pl_24]
  rw [show nI 24 = oz_d8 4 from rfl, k1, Option.bind_some]
/-- the arguments of feed -/
def oz_ag (x1 x2 x3 x4 x5 : Int32) (q : Nat) : Int32 := if q = 0 then x1 else if q = 1 then x2 else if q = 2 then x3 else if q = 3 then x4 else x5
def oz_fdT (T : Nat → Nat) (len : Nat) (x : Nat → Int32) (i : Nat) : Nat := if i < len then T i else oz_by (x ((i - len) / 4)) (24 - 8 * ((i - len) % 4))
theorem c_feed {T : Nat → Nat} {len : Nat} (h1 : s.1 1 1 = nI len) (hl : len ≤ 400) (h2 : ∀ i, i < len → s.1 2 i = nI (T i)) (x1 x2 x3 x4 x5 : Int32) : ∃ t, f_Main_feed x1 x2 x3 x4 x5 s = some (if len + 20 ≤ 400 then nI (len + 20) else oz_N, t) ∧ t.1 1 1 = nI (if len + 20 ≤ 400 then len + 20 else len) ∧ (∀ i, i < (if len + 20 ≤ 400 then len + 20 else len) → t.1 2 i = nI (oz_fdT T len (oz_ag x1 x2 x3 x4 x5) i)) ∧ oz_fr (fun p => p = 1 ∨ p = 2) s t ∧ ∀ i, i ≠ 1 → t.1 1 i = s.1 1 i := by
  unfold f_Main_feed
  rw [h1, pl_20, nI_add, pl_400]
  by_cases c : len + 20 ≤ 400
  · rw [oz_ile_t c (by omega), if_pos c, if_pos c]
    obtain ⟨t1, a1, a2, a3, a4, a5, a6⟩ := c_push (s := s) (x := x1) (n := len) (by omega) h1
    obtain ⟨t2, b1, b2, b3, b4, b5, b6⟩ := c_push (s := t1) (x := x2) (n := len + 4) (by omega) a2
    obtain ⟨t3, d1, d2, d3, d4, d5, d6⟩ := c_push (s := t2) (x := x3) (n := len + 4 + 4) (by omega) b2
    obtain ⟨t4, e1, e2, e3, e4, e5, e6⟩ := c_push (s := t3) (x := x4) (n := len + 4 + 4 + 4) (by omega) d2
    obtain ⟨t5, f1, f2, f3, f4, f5, f6⟩ := c_push (s := t4) (x := x5) (n := len + 4 + 4 + 4 + 4) (by omega) e2
    refine ⟨t5, ?_, by rw [f2], fun i hi => ?_, oz_fr_tr a5 (oz_fr_tr b5 (oz_fr_tr d5 (oz_fr_tr e5 f5))), fun i hi => by rw [f6 i hi, e6 i hi, d6 i hi, b6 i hi, a6 i hi]⟩
    · simp only [a1, b1, d1, e1, f1, Option.bind_some, f2]
    · unfold oz_fdT oz_ag
      by_cases g0 : i < len
      · rw [if_pos g0, f4 i (by omega), e4 i (by omega), d4 i (by omega), b4 i (by omega), a4 i g0]; exact h2 i g0
      · rw [if_neg g0]
        by_cases g1 : i < len + 4
        · rw [if_pos (by omega), f4 i (by omega), e4 i (by omega), d4 i (by omega), b4 i (by omega)]
          have := a3 (i - len) (by omega)
          rw [show len + (i - len) = i by omega] at this
          rw [this, show (i - len) % 4 = i - len by omega]
        · rw [if_neg (by omega)]
          by_cases g2 : i < len + 8
          · rw [if_pos (by omega), f4 i (by omega), e4 i (by omega), d4 i (by omega)]
            have := b3 (i - len - 4) (by omega)
            rw [show len + 4 + (i - len - 4) = i by omega] at this
            rw [this, show (i - len) % 4 = i - len - 4 by omega]
          · rw [if_neg (by omega)]
            by_cases g3 : i < len + 12
            · rw [if_pos (by omega), f4 i (by omega), e4 i (by omega)]
              have := d3 (i - len - 8) (by omega)
              rw [show len + 4 + 4 + (i - len - 8) = i by omega] at this
              rw [this, show (i - len) % 4 = i - len - 8 by omega]
            · rw [if_neg (by omega)]
              by_cases g4 : i < len + 16
              · rw [if_pos (by omega), f4 i (by omega)]
                have := e3 (i - len - 12) (by omega)
                rw [show len + 4 + 4 + 4 + (i - len - 12) = i by omega] at this
                rw [this, show (i - len) % 4 = i - len - 12 by omega]
              · rw [if_neg (by omega)]
                have := f3 (i - len - 16) (by omega)
                rw [show len + 4 + 4 + 4 + 4 + (i - len - 16) = i by omega] at this
                rw [this, show (i - len) % 4 = i - len - 16 by omega]
  · rw [oz_ile_f (by omega) (by omega), if_neg c, if_neg c, pl_1, oz_neg1]
    refine ⟨s, rfl, h1, fun i hi => ?_, oz_fr_rf, fun _ _ => rfl⟩
    unfold oz_fdT
    rw [if_pos hi]
    exact h2 i hi
theorem m_feed {T : Nat → Nat} {len : Nat} (h1 : s.1 389 8 = nI len) (hl : len ≤ 400) (h2 : ∀ i, i < len → s.1 394 i = nI (T i)) (x1 x2 x3 x4 x5 : Int32) : ∃ t, f_Mod_feed x1 x2 x3 x4 x5 s = some (if len + 20 ≤ 400 then nI (len + 20) else oz_N, t) ∧ t.1 389 8 = nI (if len + 20 ≤ 400 then len + 20 else len) ∧ t.1 389 0 = nI 0 ∧ (∀ i, i < (if len + 20 ≤ 400 then len + 20 else len) → t.1 394 i = nI (oz_fdT T len (oz_ag x1 x2 x3 x4 x5) i)) ∧ oz_fr (fun p => p = 389 ∨ p = 394) s t ∧ ∀ i, i ≠ 8 → i ≠ 0 → t.1 389 i = s.1 389 i := by
  unfold f_Mod_feed
  simp only [lf_lt, pl_0, pl_1, pl_20, pl_400, oz_neg1]
  rw [oz_w_n (by omega), h1, nI_add]
  by_cases c : len + 20 ≤ 400
  · rw [oz_ile_t c (by omega), if_pos c, if_pos c]
    obtain ⟨t, k1, k2, k3, k4, k5, k6⟩ := oz_forE (N := 20) (fun i (t : lf_S) => t.1 389 8 = nI (len + i) ∧ (∀ k, k < len + i → t.1 394 k = nI (oz_fdT T len (oz_ag x1 x2 x3 x4 x5) k)) ∧ t.1 389 0 = nI 0 ∧ oz_fr (fun p => p = 389 ∨ p = 394) s t ∧ ∀ j, j ≠ 8 → j ≠ 0 → t.1 389 j = s.1 389 j) (fun f i t => f_Mod_feed_23 x1 x2 x3 x4 x5 f (nI i) t) (fun t => t) (by
        intro f t ht
        rw [f_Mod_feed_23, pl_20, oz_ile_t (by omega) (by omega)]) (by
        intro f i t hi ht
        obtain ⟨i1, i2, i3, i4, i5⟩ := ht
        have main : ∀ y : Int32, y = oz_ag x1 x2 x3 x4 x5 (i / 4) → ∃ u, (u.1 389 8 = nI (len + (i + 1)) ∧ (∀ k, k < len + (i + 1) → u.1 394 k = nI (oz_fdT T len (oz_ag x1 x2 x3 x4 x5) k)) ∧ u.1 389 0 = nI 0 ∧ oz_fr (fun p => p = 389 ∨ p = 394) s u ∧ ∀ j, j ≠ 8 → j ≠ 0 → u.1 389 j = s.1 389 j) ∧ lf_lt y (fun y3 => lf_ck (t.1 389 8) 400 (fun k4 => lf_lt (lf_w t 394 k4 ((lf_us y3 (nI 24 - nI 8 * (nI i % nI 4))) &&& nI 255)) (fun s5 => lf_lt (lf_w s5 389 8 ((s5.1 389 8) + nI 1)) (fun s6 => lf_lt (nI i + nI 1) (fun y7 => f_Mod_feed_23 x1 x2 x3 x4 x5 f y7 s6))))) = f_Mod_feed_23 x1 x2 x3 x4 x5 f (nI (i + 1)) u := by
          intro y hy
          refine ⟨lf_w (lf_w t 394 (len + i) (nI (oz_by y (24 - 8 * (i % 4))))) 389 8 (nI (len + i + 1)), ⟨oz_w_s, fun k hk => ?_, ?_, oz_fr_tr i4 (oz_fr_tr (oz_fr_w (by omega)) (oz_fr_w (by omega))), fun j h1 h2 => ?_⟩, ?_⟩
          · rw [oz_w_o (by omega)]
            by_cases ck : k = len + i
            · rw [ck, oz_w_s]
              unfold oz_fdT
              rw [if_neg (by omega), show len + i - len = i by omega, hy]
            · rw [oz_w_n ck]; exact i2 k (by omega)
          · rw [oz_w_n (by omega), oz_w_o (by omega)]; exact i3
          · rw [oz_w_n h1, oz_w_o (by omega)]; exact i5 j h1 h2
          · simp only [lf_lt]
            rw [i1, oz_ck (by omega) (by omega), oz_w_o (by omega), i1, oz_mod (by omega) (by omega) (by omega), pk_mul, oz_sub (by omega), oz_by_i, nI_add, nI_add]
        rw [f_Mod_feed_23, pl_20, oz_ile_f hi (by omega), pl_4, pl_8, pl_12, pl_16, pl_24, pl_255, pl_1]
        by_cases g1 : 4 ≤ i
        · rw [oz_ile_t g1 (by omega)]
          by_cases g2 : 8 ≤ i
          · rw [oz_ile_t g2 (by omega)]
            by_cases g3 : 12 ≤ i
            · rw [oz_ile_t g3 (by omega)]
              by_cases g4 : 16 ≤ i
              · rw [oz_ile_t g4 (by omega)]
                exact main x5 (by unfold oz_ag; rw [if_neg (by omega), if_neg (by omega), if_neg (by omega), if_neg (by omega)])
              · rw [oz_ile_f (by omega) (by omega)]
                exact main x4 (by unfold oz_ag; rw [if_neg (by omega), if_neg (by omega), if_neg (by omega), if_pos (by omega)])
            · rw [oz_ile_f (by omega) (by omega)]
              exact main x3 (by unfold oz_ag; rw [if_neg (by omega), if_neg (by omega), if_pos (by omega)])
          · rw [oz_ile_f (by omega) (by omega)]
            exact main x2 (by unfold oz_ag; rw [if_neg (by omega), if_pos (by omega)])
        · rw [oz_ile_f (by omega) (by omega)]
          exact main x1 (by unfold oz_ag; rw [if_pos (by omega)])) 20 0 5000 (lf_w s 389 0 (nI 0)) (by omega) (by omega) ⟨by rw [oz_w_n (by omega), Nat.add_zero]; exact h1, fun k hk => by
          rw [oz_w_o (by omega)]
          unfold oz_fdT
          rw [if_pos (by omega)]
          exact h2 k (by omega), oz_w_s, oz_fr_w (by omega), fun j h1 h2 => oz_w_n h2⟩
    refine ⟨t, ?_, k2, k4, k3, k5, k6⟩
    rw [k1, Option.bind_some, k2]
  · rw [oz_ile_f (by omega) (by omega), if_neg c, if_neg c]
    refine ⟨_, rfl, by rw [oz_w_n (by omega)]; exact h1, oz_w_s, fun i hi => ?_, oz_fr_w (by omega), fun i h1 h2 => oz_w_n h2⟩
    rw [oz_w_o (by omega)]
    unfold oz_fdT
    rw [if_pos hi]
    exact h2 i hi
theorem c_end {len : Nat} (h1 : s.1 1 1 = nI len) (hl : len ≤ 400) (x : Int32) : ∃ t, f_Main_end x s = some (decide (0 ≤ x.toInt ∧ x.toInt ≤ len), t) ∧ t.1 1 1 = nI (if 0 ≤ x.toInt ∧ x.toInt ≤ len then x.toInt.toNat else len) ∧ oz_fr (fun p => p = 1) s t ∧ ∀ i, i ≠ 1 → t.1 1 i = s.1 1 i := by
  unfold f_Main_end
  rw [h1]
  by_cases c1 : x.toInt < 0
  · rw [if_pos (show x < 0 by rw [Int32.lt_iff_toInt_lt]; exact c1), decide_eq_false (by omega), if_neg (by omega)]
    exact ⟨s, rfl, h1, oz_fr_rf, fun _ _ => rfl⟩
  · rw [if_neg (show ¬ x < 0 by rw [Int32.lt_iff_toInt_lt]; exact c1)]
    by_cases c2 : x.toInt ≤ len
    · have e : x.toInt = ((x.toInt.toNat : Nat) : Int) := by omega
      have ex := oz_toInt_eq e (by omega)
      rw [if_pos (show x ≤ nI len by rw [Int32.le_iff_toInt_le, oz_ti (by omega)]; exact c2), decide_eq_true ⟨by omega, c2⟩, if_pos ⟨by omega, c2⟩]
      refine ⟨_, rfl, ?_, oz_fr_w rfl, fun i hi => oz_w_n hi⟩
      rw [oz_w_s]; exact ex
    · rw [if_neg (show ¬ x ≤ nI len by rw [Int32.le_iff_toInt_le, oz_ti (by omega)]; exact c2), decide_eq_false (by omega), if_neg (by omega)]
      exact ⟨s, rfl, h1, oz_fr_rf, fun _ _ => rfl⟩
theorem m_end {len : Nat} (h1 : s.1 389 8 = nI len) (hl : len ≤ 400) (x : Int32) : ∃ t, f_Mod_end x s = some (decide (0 ≤ x.toInt ∧ x.toInt ≤ len), t) ∧ t.1 389 8 = nI (if 0 ≤ x.toInt ∧ x.toInt ≤ len then x.toInt.toNat else len) ∧ t.1 389 0 = nI 0 ∧ oz_fr (fun p => p = 389) s t ∧ ∀ i, i ≠ 8 → i ≠ 0 → t.1 389 i = s.1 389 i := by
  unfold f_Mod_end
  simp only [lf_lt, pl_0]
  rw [oz_w_n (by omega), h1]
  by_cases c : 0 ≤ x.toInt ∧ x.toInt ≤ len
  · have e : x.toInt = ((x.toInt.toNat : Nat) : Int) := by omega
    have ex := oz_toInt_eq e (by omega)
    rw [decide_eq_true c, if_pos c]
    have hm := m_isIn_t (v := x.toInt.toNat) (l := 0) (h := len) (by omega) (by omega) (by omega)
    rw [← ex] at hm
    rw [hm, Option.bind_some, if_pos rfl]
    refine ⟨_, rfl, ?_, by rw [oz_w_n (by omega)]; exact oz_w_s, oz_fr_tr (oz_fr_w rfl) (oz_fr_w rfl), fun i h1 h2 => by rw [oz_w_n h1, oz_w_n h2]⟩
    rw [oz_w_s]; exact ex
  · rw [decide_eq_false c, if_neg c]
    have co : x < nI 0 ∨ (¬ x < nI 0 ∧ nI len < x) := by
      rw [Int32.lt_iff_toInt_lt, Int32.lt_iff_toInt_lt, oz_ti (by omega), oz_ti (by omega)]
      omega
    rw [m_isIn_o co, Option.bind_some, if_neg Bool.noConfusion]
    exact ⟨_, rfl, by rw [oz_w_n (by omega)]; exact h1, oz_w_s, oz_fr_w rfl, fun i h1 h2 => oz_w_n h2⟩
end
