/-! ===== who works at which order: the class's search ===== -/
def oz_tv (a : Nat → Nat) (h o : Nat) : Nat := oz_sk a h * oz_bas a (oz_ord a o 0) 3
def oz_wo (M : Nat → Bool) (o : Nat) : Nat → Bool := fun x => M x && !(x == o)
def oz_tps (val W : Nat → Nat) (M : Nat → Bool) (o : Nat) (x : Nat × Option Nat) : Nat × Option Nat := if M o = true ∧ x.1 < val o + W o then (val o + W o, some o) else x
def oz_tp (a : Nat → Nat) : Nat → Nat → (Nat → Bool) → Nat × Option Nat
  | 0, _, _ => (0, none)
  | m + 1, h, M => oz_it (oz_tps (oz_tv a h) (fun o => (oz_tp a m (h + 1) (oz_wo M o)).1) M) (a 6) ((oz_tp a m (h + 1) M).1, none)
def oz_uo (A : Nat → Option Nat) (h : Nat) (c : Option Nat) : Nat → Option Nat := fun j => if j = h then c else A j
theorem oz_uo_s {A : Nat → Option Nat} {h : Nat} {c : Option Nat} : oz_uo A h c h = c := if_pos rfl
theorem oz_uo_n {A : Nat → Option Nat} {h j : Nat} {c : Option Nat} (e : j ≠ h) : oz_uo A h c j = A j := if_neg e
def oz_wc (M : Nat → Bool) : Option Nat → Nat → Bool
  | none => M
  | some o => oz_wo M o
def oz_tA (a : Nat → Nat) : Nat → Nat → (Nat → Bool) → (Nat → Option Nat) → Nat → Option Nat
  | 0, _, _, A => A
  | m + 1, h, M, A => oz_tA a m (h + 1) (oz_wc M (oz_tp a (m + 1) h M).2) (oz_uo A h (oz_tp a (m + 1) h M).2)
theorem oz_it_P {σ : Type} {f : Nat → σ → σ} (P : σ → Prop) {x0 : σ} (h0 : P x0) : ∀ N, (∀ i x, i < N → P x → P (f i x)) → P (oz_it f N x0) := by
  intro N
  induction N with
  | zero => intro _; exact h0
  | succ n ih => intro h; exact h n _ (by omega) (ih (fun i x hi => h i x (by omega)))
theorem oz_tv_le {a : Nat → Nat} (V : oz_V a) {h o : Nat} (hh : h < a 5) (ho : o < a 6) : oz_tv a h o ≤ 891 := by
  have h3 := oz_v3 V hh
  have h4 := oz_v4 V ho
  unfold oz_V3 at h3
  unfold oz_V4 at h4
  have h2 := oz_v2 V h4.1
  unfold oz_V2 at h2
  exact Nat.mul_le_mul (show oz_sk a h ≤ 9 by omega) (show oz_bas a (oz_ord a o 0) 3 ≤ 99 by omega)
theorem oz_tp_le {a : Nat → Nat} (V : oz_V a) : ∀ m h M, h + m = a 5 → (oz_tp a m h M).1 ≤ 891 * m := by
  intro m
  induction m with
  | zero => intro h M _; exact Nat.le_refl _
  | succ m ih =>
    intro h M hm
    unfold oz_tp
    refine oz_it_P (fun x : Nat × Option Nat => x.1 ≤ 891 * (m + 1)) ?_ (a 6) (fun o x ho hx => ?_)
    · have := ih (h + 1) M (by omega)
      show (oz_tp a m (h + 1) M).1 ≤ _
      omega
    · have h1 := ih (h + 1) (oz_wo M o) (by omega)
      have h2 := oz_tv_le V (show h < a 5 by omega) ho
      unfold oz_tps
      split
      · show oz_tv a h o + (oz_tp a m (h + 1) (oz_wo M o)).1 ≤ 891 * (m + 1)
        omega
      · exact hx
def oz_btb : Option Nat → Nat → Bool
  | none, _ => true
  | some m, x => decide (m < x)
/-- what the search leaves as the best of value w and choice A -/
def oz_TM (s x : lf_S) (n : Nat) (b : Option Nat) (w : Nat) (A : Nat → Option Nat) : Prop := (oz_btb b w = true → x.1 3 5 = nI w ∧ ∀ j, j < n → x.1 5 j = oz_en (A j)) ∧ (oz_btb b w = false → x.1 3 5 = s.1 3 5 ∧ x.1 5 = s.1 5)
def oz_nb (b : Option Nat) (w : Nat) : Option Nat := if oz_btb b w = true then some w else b
theorem oz_TM_b {s x : lf_S} {n w : Nat} {b : Option Nat} {A : Nat → Option Nat} (h : oz_TM s x n b w A) (hb : s.1 3 5 = oz_en b) : x.1 3 5 = oz_en (oz_nb b w) := by
  unfold oz_nb
  cases c : oz_btb b w with
  | true => rw [if_pos rfl]; exact (h.1 c).1
  | false => rw [if_neg Bool.noConfusion, (h.2 c).1]; exact hb
theorem oz_nb_t {b : Option Nat} {w : Nat} : ∀ m, oz_nb b w = some m → m = w ∨ b = some m := by
  intro m h
  unfold oz_nb at h
  split at h
  · cases h; exact Or.inl rfl
  · exact Or.inr h
theorem oz_btb_nb {b : Option Nat} {w1 w2 : Nat} : oz_btb (oz_nb b w1) w2 = (oz_btb b w2 && decide (w1 < w2)) ∨ oz_btb b w1 = false ∧ oz_btb (oz_nb b w1) w2 = oz_btb b w2 := by
  unfold oz_nb
  cases b with
  | none => left; show decide (w1 < w2) = (true && decide (w1 < w2)); rw [Bool.true_and]
  | some m =>
    cases c : oz_btb (some m) w1 with
    | true =>
      left
      rw [if_pos rfl]
      have c1 : m < w1 := of_decide_eq_true c
      show decide (w1 < w2) = (decide (m < w2) && decide (w1 < w2))
      by_cases c2 : w1 < w2
      · rw [decide_eq_true c2, decide_eq_true (by omega)]; rfl
      · rw [decide_eq_false c2, Bool.and_false]
    | false =>
      right
      rw [if_neg Bool.noConfusion]
      exact ⟨rfl, rfl⟩
theorem oz_btb_mono {b : Option Nat} {x y : Nat} (h : oz_btb b x = true) (l : x ≤ y) : oz_btb b y = true := by
  cases b with
  | none => rfl
  | some m => exact decide_eq_true (Nat.lt_of_lt_of_le (of_decide_eq_true h) l)
theorem oz_TM_tr {s x y : lf_S} {n w1 w2 : Nat} {b : Option Nat} {A1 A2 : Nat → Option Nat} (h1 : oz_TM s x n b w1 A1) (h2 : oz_TM x y n (oz_nb b w1) w2 A2) : oz_TM s y n b (if w1 < w2 then w2 else w1) (if w1 < w2 then A2 else A1) := by
  by_cases c : w1 < w2
  · rw [if_pos c, if_pos c]
    have e : oz_btb (oz_nb b w1) w2 = oz_btb b w2 := by
      rcases oz_btb_nb (b := b) (w1 := w1) (w2 := w2) with e | e
      · rw [e, decide_eq_true c, Bool.and_true]
      · exact e.2
    refine ⟨fun z => h2.1 (e.trans z), fun z => ?_⟩
    have z2 := h2.2 (e.trans z)
    have z1 : oz_btb b w1 = false := by
      cases c1 : oz_btb b w1 with
      | false => rfl
      | true => rw [oz_btb_mono c1 (by omega)] at z; exact Bool.noConfusion z
    have z3 := h1.2 z1
    exact ⟨z2.1.trans z3.1, z2.2.trans z3.2⟩
  · rw [if_neg c, if_neg c]
    have e : oz_btb (oz_nb b w1) w2 = false := by
      cases z : oz_btb (oz_nb b w1) w2 with
      | false => rfl
      | true =>
        rcases oz_btb_nb (b := b) (w1 := w1) (w2 := w2) with e | e
        · rw [e, decide_eq_false c, Bool.and_false] at z; exact Bool.noConfusion z
        · rw [e.2] at z
          have := oz_btb_mono z (show w2 ≤ w1 by omega)
          rw [e.1] at this
          exact Bool.noConfusion this
    have z2 := h2.2 e
    refine ⟨fun z => ?_, fun z => ?_⟩
    · have z3 := h1.1 z
      exact ⟨z2.1.trans z3.1, fun j hj => by rw [z2.2]; exact z3.2 j hj⟩
    · have z3 := h1.2 z
      exact ⟨z2.1.trans z3.1, z2.2.trans z3.2⟩
def oz_clr (x o : Nat) : Nat := x &&& (63 - 2 ^ o)
theorem oz_clr_i : ∀ x, x < 64 → ∀ o, o < 6 → nI x &&& ((nI 1 <<< (nI o &&& nI 31)) ^^^ oz_N) = nI (oz_clr x o) := by decide +kernel
theorem oz_clr_b : ∀ x, x < 64 → ∀ o, o < 6 → ∀ y, y < 6 → (oz_clr x o).testBit y = (x.testBit y && !(y == o)) := by decide +kernel
theorem oz_clr_l : ∀ x, x < 64 → ∀ o, o < 6 → oz_clr x o < 64 := by decide +kernel
section
variable {s0 : lf_S} {a : Nat → Nat}
theorem c_tryTeam (V : oz_V a) (C : oz_C s0 10 a) : ∀ m h M mk A v (b : Option Nat) (s : lf_S) fuel, h + m = a 5 → m < fuel → mk < 64 → (∀ o, o < 6 → mk.testBit o = M o) → (∀ p, 10 ≤ p → s.1 p = s0.1 p) → (∀ j, j < h → s.1 6 j = oz_en (A j)) → s.1 3 5 = oz_en b → v ≤ 891 * h → (∀ z, b = some z → z ≤ 10000) →
    ∃ t, F_Ways_tryTeam fuel 10 (nI h) (nI mk) (nI v) s = some t ∧ oz_fr (fun p => p = 3 ∨ p = 5 ∨ p = 6) s t ∧ (∀ j, j < h → t.1 6 j = s.1 6 j) ∧ (∀ j, j ≠ 5 → t.1 3 j = s.1 3 j) ∧ oz_TM s t (a 5) b (v + (oz_tp a m h M).1) (oz_tA a m h M A) := by
  have hv := oz_v0 V
  unfold oz_V0 at hv
  intro m
  induction m with
  | zero =>
    intro h M mk A v b s fuel hm hf hmk hM E h6 hb hvv hb1
    obtain ⟨fuel, rfl⟩ : ∃ m, fuel = m + 1 := ⟨fuel - 1, by omega⟩
    obtain rfl : h = a 5 := by omega
    unfold F_Ways_tryTeam fb_Ways_tryTeam
    rw [E (10 + 15) (by omega), h_0 C.2.2.2.1, oz_ilt_f (by omega) (by omega), hb]
    obtain ⟨t, k1, k2, k3, k4, k5⟩ := c_keepTried (s := s) (x := nI v)
    have e0 : v + (oz_tp a 0 (a 5) M).1 = v := rfl
    rw [e0]
    cases c : oz_btb b v with
    | true =>
      refine ⟨t, ?_, oz_fr_mono k4 (by omega), fun j hj => by rw [k4.1 6 (by omega)], k5, fun _ => ⟨k2, fun j hj => by rw [k3 j (by omega)]; exact h6 j hj⟩, fun z => by rw [c] at z; exact Bool.noConfusion z⟩
      rw [k1, if_neg (show ¬ nI v ≤ oz_en b from ?_)]
      · rfl
      · cases b with
        | none => exact of_eq_false (oz_lem1 (by omega))
        | some z =>
          have := hb1 z rfl
          exact of_eq_false (oz_le_f (of_decide_eq_true c) (by omega))
    | false =>
      refine ⟨s, ?_, oz_fr_rf, fun _ _ => rfl, fun _ _ => rfl, fun z => by rw [c] at z; exact Bool.noConfusion z, fun _ => ⟨rfl, rfl⟩⟩
      cases b with
      | none => exact Bool.noConfusion c
      | some z =>
        have := hb1 z rfl
        have cc := of_decide_eq_false c
        exact if_pos (of_eq_true (oz_le_t (by omega) (by omega)))
  | succ m ih =>
    intro h M mk A v b s fuel hm hf hmk hM E h6 hb hvv hb1
    obtain ⟨fuel, rfl⟩ : ∃ m, fuel = m + 1 := ⟨fuel - 1, by omega⟩
    have w0 := oz_tp_le V m (h + 1) M (by omega)
    obtain ⟨t1, k1, f1, g1, g2, g3⟩ := ih (h + 1) M mk (oz_uo A h none) v b (lf_w s 6 h oz_N) fuel (by omega) (by omega) hmk hM (fun p hp => by rw [oz_w_o (by omega)]; exact E p hp) (by
      intro j hj
      by_cases cj : j = h
      · rw [cj, oz_w_s, oz_uo_s]; rfl
      · rw [oz_w_n cj, oz_uo_n cj]; exact h6 j (by omega)) (by rw [oz_w_o (by omega)]; exact hb) (by omega) hb1
    have I0 : oz_fr (fun p => p = 3 ∨ p = 5 ∨ p = 6) s t1 ∧ (∀ j, j < h → t1.1 6 j = s.1 6 j) ∧ (∀ j, j ≠ 5 → t1.1 3 j = s.1 3 j) ∧ oz_TM s t1 (a 5) b (v + (oz_tp a m (h + 1) M).1) (oz_tA a m (h + 1) M (oz_uo A h none)) := by
      refine ⟨oz_fr_tr (oz_fr_w (by omega)) f1, fun j hj => by rw [g1 j (by omega), oz_w_n (by omega)], fun j hj => by rw [g2 j hj, oz_w_o (by omega)], fun z => g3.1 z, fun z => ?_⟩
      have := g3.2 z
      rw [oz_w_o (by omega), oz_w_o (by omega)] at this
      exact this
    obtain ⟨t, l1, l2⟩ := oz_forE (N := a 6) (fun o (x : lf_S) => oz_fr (fun p => p = 3 ∨ p = 5 ∨ p = 6) s x ∧ (∀ j, j < h → x.1 6 j = s.1 6 j) ∧ (∀ j, j ≠ 5 → x.1 3 j = s.1 3 j) ∧ (oz_it (oz_tps (oz_tv a h) (fun o => (oz_tp a m (h + 1) (oz_wo M o)).1) M) o ((oz_tp a m (h + 1) M).1, none)).1 ≤ 891 * (m + 1) ∧ oz_TM s x (a 5) b (v + (oz_it (oz_tps (oz_tv a h) (fun o => (oz_tp a m (h + 1) (oz_wo M o)).1) M) o ((oz_tp a m (h + 1) M).1, none)).1) (oz_tA a m (h + 1) (oz_wc M (oz_it (oz_tps (oz_tv a h) (fun o => (oz_tp a m (h + 1) (oz_wo M o)).1) M) o ((oz_tp a m (h + 1) M).1, none)).2) (oz_uo A h (oz_it (oz_tps (oz_tv a h) (fun o => (oz_tp a m (h + 1) (oz_wo M o)).1) M) o ((oz_tp a m (h + 1) M).1, none)).2))) (fun f o x => f_Ways_tryTeam_48 (F_Ways_tryTeam fuel) 10 (nI h) (nI mk) (nI v) f (nI o) x) (fun x => x) (by
      intro f x hx
      rw [f_Ways_tryTeam_48, hx.1.1 (10 + 18) (by omega), E (10 + 18) (by omega), o_0 C.2.2.2.2.1, oz_ile_t (by omega) (by omega)]) (by
      intro f o x ho hx
      obtain ⟨x1, x2, x3, x4, x5⟩ := hx
      have Ex : ∀ p, 10 ≤ p → x.1 p = s0.1 p := fun p hp => (x1.1 p (by omega)).trans (E p hp)
      have es : oz_it (oz_tps (oz_tv a h) (fun o => (oz_tp a m (h + 1) (oz_wo M o)).1) M) (o + 1) ((oz_tp a m (h + 1) M).1, none) = oz_tps (oz_tv a h) (fun o => (oz_tp a m (h + 1) (oz_wo M o)).1) M o (oz_it (oz_tps (oz_tv a h) (fun o => (oz_tp a m (h + 1) (oz_wo M o)).1) M) o ((oz_tp a m (h + 1) M).1, none)) := rfl
      rw [es]
      generalize oz_it (oz_tps (oz_tv a h) (fun o => (oz_tp a m (h + 1) (oz_wo M o)).1) M) o ((oz_tp a m (h + 1) M).1, none) = P at *
      have hbit := oz_bit_eq (n := mk) (k := o) (by omega) (by omega)
      rw [hM o (by omega)] at hbit
      cases cM : M o with
      | false =>
        refine ⟨x, ?_, ?_⟩
        · have e : oz_tps (oz_tv a h) (fun o => (oz_tp a m (h + 1) (oz_wo M o)).1) M o P = P := if_neg (by rw [cM]; exact fun z => Bool.noConfusion z.1)
          rw [e]
          exact ⟨x1, x2, x3, x4, x5⟩
        · rw [f_Ways_tryTeam_48, Ex (10 + 18) (by omega), o_0 C.2.2.2.2.1, oz_ile_f ho (by omega), pl_31, pl_1, if_neg (by rw [hbit, cM]; exact Bool.noConfusion)]
          simp only [lf_lt, nI_add]
      | true =>
        have hov := oz_v4 V ho
        unfold oz_V4 at hov
        have wo := oz_tp_le V m (h + 1) (oz_wo M o) (by omega)
        have hval := oz_tv_le V (show h < a 5 by omega) ho
        obtain ⟨t2, k2, f2, q1, q2, q3⟩ := ih (h + 1) (oz_wo M o) (oz_clr mk o) (oz_uo A h (some o)) (v + oz_tv a h o) (oz_nb b (v + P.1)) (lf_w x 6 h (nI o)) fuel (by omega) (by omega) (oz_clr_l mk hmk o (by omega)) (by
          intro y hy
          rw [oz_clr_b mk hmk o (by omega) y hy, hM y hy]; rfl) (fun p hp => by rw [oz_w_o (by omega)]; exact Ex p hp) (by
          intro j hj
          by_cases cj : j = h
          · rw [cj, oz_w_s, oz_uo_s]; rfl
          · rw [oz_w_n cj, oz_uo_n cj, x2 j (by omega)]; exact h6 j (by omega)) (by rw [oz_w_o (by omega)]; exact oz_TM_b x5 hb) (by omega) (by
          intro z hz
          rcases oz_nb_t z hz with e | e
          · omega
          · exact hb1 z e)
        refine ⟨t2, ⟨oz_fr_tr (oz_fr_tr x1 (oz_fr_w (by omega))) f2, fun j hj => by rw [q1 j (by omega), oz_w_n (by omega)]; exact x2 j hj, fun j hj => by rw [q2 j hj, oz_w_o (by omega)]; exact x3 j hj, ?_, ?_⟩, ?_⟩
        · unfold oz_tps
          split
          · show oz_tv a h o + (oz_tp a m (h + 1) (oz_wo M o)).1 ≤ 891 * (m + 1)
            omega
          · exact x4
        · have q3' : oz_TM x t2 (a 5) (oz_nb b (v + P.1)) (v + oz_tv a h o + (oz_tp a m (h + 1) (oz_wo M o)).1) (oz_tA a m (h + 1) (oz_wo M o) (oz_uo A h (some o))) := by
            refine ⟨fun z => q3.1 z, fun z => ?_⟩
            have := q3.2 z
            rw [oz_w_o (by omega), oz_w_o (by omega)] at this
            exact this
          have T3 := oz_TM_tr x5 q3'
          unfold oz_tps
          by_cases c : P.1 < oz_tv a h o + (oz_tp a m (h + 1) (oz_wo M o)).1
          · rw [if_pos ⟨cM, c⟩]
            rw [if_pos (by omega), if_pos (by omega)] at T3
            show oz_TM s t2 (a 5) b (v + (oz_tv a h o + (oz_tp a m (h + 1) (oz_wo M o)).1)) (oz_tA a m (h + 1) (oz_wo M o) (oz_uo A h (some o)))
            rw [← Nat.add_assoc]
            exact T3
          · rw [if_neg (fun z => c z.2)]
            rw [if_neg (by omega), if_neg (by omega)] at T3
            exact T3
        · rw [f_Ways_tryTeam_48, Ex (10 + 18) (by omega), o_0 C.2.2.2.2.1, oz_ile_f ho (by omega), pl_31, pl_1, if_pos (by rw [hbit]; exact cM), oz_ck (by omega) (by omega), Ex (10 + 18 + 1) (by omega), o_1 C.2.2.2.2.1 ho, oz_ck (by omega) (by omega), Ex (10 + 6 + 4) (by omega), k_4 C.2.2.1 hov.1]
          simp only [lf_lt]
          rw [oz_ck (by omega) (by omega), oz_ck (by omega) (by omega), oz_w_o (by omega), Ex (10 + 15 + 1) (by omega), h_1 C.2.2.2.1 (by omega), pk_mul, nI_add, nI_add, oz_neg1, oz_clr_i mk hmk o (by omega)]
          have ev : oz_sk a h * oz_bas a (oz_ord a o 0) 3 = oz_tv a h o := rfl
          rw [ev, k2, Option.bind_some, nI_add]) (a 6) 0 5000 t1 (by omega) (by omega) ⟨I0.1, I0.2.1, I0.2.2.1, by
            show (oz_tp a m (h + 1) M).1 ≤ _
            omega, I0.2.2.2⟩
    refine ⟨t, ?_, l2.1, l2.2.1, l2.2.2.1, l2.2.2.2.2⟩
    unfold F_Ways_tryTeam fb_Ways_tryTeam
    rw [E (10 + 15) (by omega), h_0 C.2.2.2.1, oz_ilt_t (by omega) (by omega), oz_ck (by omega) (by omega), pl_1, oz_neg1]
    simp only [lf_lt, pl_0, nI_add, k1, Option.bind_some, l1]
end
