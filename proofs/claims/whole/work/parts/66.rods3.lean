/-! ===== the fewest rods: the model's ===== -/
/-- a loop, and what is asked of its end -/
theorem oz_forS {σ ρ : Type} {N : Nat} (I : Nat → σ → Prop) (L : Nat → Nat → σ → Option ρ) (Q : Option ρ → Prop)
    (h0 : ∀ n x, I N x → Q (L (n + 1) N x)) (h1 : ∀ n i x, i < N → I i x → (∃ y, I (i + 1) y ∧ L (n + 1) i x = L n (i + 1) y) ∨ Q (L (n + 1) i x)) :
    ∀ k i fuel x, i + k = N → k < fuel → I i x → Q (L fuel i x) := by
  intro k
  induction k with
  | zero =>
    intro i fuel x e hf hi
    obtain rfl : i = N := by omega
    obtain ⟨m, rfl⟩ : ∃ m, fuel = m + 1 := ⟨fuel - 1, by omega⟩
    exact h0 m x hi
  | succ k ih =>
    intro i fuel x e hf hi
    obtain ⟨m, rfl⟩ : ∃ m, fuel = m + 1 := ⟨fuel - 1, by omega⟩
    rcases h1 m i x (by omega) hi with ⟨y, hy, e1⟩ | q
    · rw [e1]; exact ih (i + 1) m y (by omega) (by omega) hy
    · exact q
theorem oz_pf_mono {β : Type} {g : Nat → Option β} {x : β} {n : Nat} (h : oz_pf g n = some x) : ∀ k, oz_pf g (n + k) = some x := by
  intro k
  induction k with
  | zero => exact h
  | succ k ih =>
    show (oz_pf g (n + k)).or (g (n + k)) = _
    rw [ih]; rfl
theorem oz_pf_nn {β : Type} {g : Nat → Option β} : ∀ n, (∀ r, r < n → g r = none) → oz_pf g n = none := by
  intro n
  induction n with
  | zero => intro _; rfl
  | succ n ih =>
    intro h
    show (oz_pf g n).or (g n) = none
    rw [ih (fun r hr => h r (by omega)), h n (by omega)]; rfl
section
variable {s : lf_S} {T : Nat → Nat} {n len : Nat}
def oz_PO (s t : lf_S) (u i n : Nat) (f : Option (Nat → Nat)) : Prop := oz_fr (fun p => p = 401 ∨ p = 402) s t ∧ (f = none → (∀ r, r < u → t.1 401 r = s.1 401 r) ∧ ∀ j, j < i → t.1 402 j = s.1 402 j) ∧ ∀ A, f = some A → ∀ j, j < n → t.1 402 j = nI (A j)
theorem m_packs {L k : Nat} (hn : n ≤ 8) (hL : L < 1000) (hk : k ≤ 8) (hT : ∀ j, j < n → T j ≤ 255) : ∀ rem i u F A (s : lf_S) fuel, i + rem = n → rem < fuel → u ≤ i → u ≤ k → (∀ r, F r ≤ L) → (∀ r, u ≤ r → F r = 0) → (∀ j, j < n → s.1 394 j = nI (T j)) → (∀ r, r < u → s.1 401 r = nI (L - F r)) → (∀ j, j < i → s.1 402 j = nI (A j)) →
    ∃ t, F_Mod_packs fuel (nI i) (nI n) (nI u) (nI k) (nI L) s = some ((oz_pk T L rem i u F A k).isSome, t) ∧ oz_PO s t u i n (oz_pk T L rem i u F A k) := by
  intro rem
  induction rem with
  | zero =>
    intro i u F A s fuel hi hf hu huk hF hF0 h3 h1 h2
    obtain ⟨fuel, rfl⟩ : ∃ m, fuel = m + 1 := ⟨fuel - 1, by omega⟩
    obtain rfl : i = n := by omega
    have e : oz_pk T L 0 i u F A k = some A := if_pos huk
    rw [e]
    refine ⟨s, ?_, oz_fr_rf, fun z => (nomatch z), fun B hB j hj => by cases hB; exact h2 j hj⟩
    unfold F_Mod_packs fb_Mod_packs
    rw [if_pos rfl]; rfl
  | succ rem ih =>
    intro i u F A s fuel hi hf hu huk hF hF0 h3 h1 h2
    obtain ⟨fuel, rfl⟩ : ∃ m, fuel = m + 1 := ⟨fuel - 1, by omega⟩
    have hTi := hT i (by omega)
    have epk : oz_pk T L (rem + 1) i u F A k = oz_pf (fun r => if F r + T i ≤ L then oz_pk T L rem (i + 1) (max u (r + 1)) (oz_up F r (F r + T i)) (oz_up A i r) k else none) (u + 1) := rfl
    rw [epk]
    unfold F_Mod_packs fb_Mod_packs
    rw [if_neg (by rw [oz_eq (by omega) (by omega)]; omega)]
    simp only [lf_lt, pl_0]
    refine oz_forS (N := u + 1) (fun r (x : lf_S) => oz_pf (fun r => if F r + T i ≤ L then oz_pk T L rem (i + 1) (max u (r + 1)) (oz_up F r (F r + T i)) (oz_up A i r) k else none) r = none ∧ oz_fr (fun p => p = 401 ∨ p = 402) s x ∧ (∀ r, r < u → x.1 401 r = s.1 401 r) ∧ ∀ j, j < i → x.1 402 j = s.1 402 j) (fun f r x => f_Mod_packs_10 (F_Mod_packs fuel) (nI i) (nI n) (nI u) (nI k) (nI L) f (nI r) x) (fun o => ∃ t, o.bind (fun p35 => Sum.elim (fun q36 => some (false, q36)) (fun q37 => some (q37.1, q37.2)) p35) = some ((oz_pf (fun r => if F r + T i ≤ L then oz_pk T L rem (i + 1) (max u (r + 1)) (oz_up F r (F r + T i)) (oz_up A i r) k else none) (u + 1)).isSome, t) ∧ oz_PO s t u i n (oz_pf (fun r => if F r + T i ≤ L then oz_pk T L rem (i + 1) (max u (r + 1)) (oz_up F r (F r + T i)) (oz_up A i r) k else none) (u + 1))) ?_ ?_ (u + 1) 0 5000 s (by omega) (by omega) ⟨rfl, oz_fr_rf, fun _ _ => rfl, fun _ _ => rfl⟩
    · intro f x hx
      obtain ⟨x1, x2, x3, x4⟩ := hx
      refine ⟨x, ?_, ?_⟩
      · rw [x1, f_Mod_packs_10, oz_ilt_t (by omega) (by omega)]; rfl
      · rw [x1]
        exact ⟨x2, fun _ => ⟨x3, x4⟩, fun B hB => (nomatch hB)⟩
    · intro f r x hr hx
      obtain ⟨x1, x2, x3, x4⟩ := hx
      have hFr := hF r
      have x3i : x.1 394 i = nI (T i) := by rw [x2.1 394 (by omega)]; exact h3 i (by omega)
      by_cases ck : r < k
      · by_cases c : F r + T i ≤ L
        · obtain ⟨t, k1, y1, y2, y3⟩ := ih (i + 1) (max u (r + 1)) (oz_up F r (F r + T i)) (oz_up A i r) (lf_w (lf_w x 401 r (nI (L - (F r + T i)))) 402 i (nI r)) fuel (by omega) (by omega) (by omega) (by omega) (by
              intro r'
              by_cases cr : r' = r
              · rw [cr, oz_up_s]; exact c
              · rw [oz_up_n cr]; exact hF r') (by
              intro r' hr'
              rw [oz_up_n (by omega)]; exact hF0 r' (by omega)) (by
              intro j hj
              rw [oz_w_o (by omega), oz_w_o (by omega), x2.1 394 (by omega)]; exact h3 j hj) (by
              intro r' hr'
              rw [oz_w_o (by omega)]
              by_cases cr : r' = r
              · rw [cr, oz_w_s, oz_up_s]
              · rw [oz_w_n cr, oz_up_n cr, x3 r' (by omega)]; exact h1 r' (by omega)) (by
              intro j hj
              by_cases cj : j = i
              · rw [cj, oz_w_s, oz_up_s]
              · rw [oz_w_n cj, oz_w_o (by omega), oz_up_n cj, x4 j (by omega)]; exact h2 j (by omega))
          have frt : oz_fr (fun p => p = 401 ∨ p = 402) s t := oz_fr_tr (oz_fr_tr (oz_fr_tr x2 (oz_fr_w (by omega))) (oz_fr_w (by omega))) y1
          have es : oz_pf (fun r => if F r + T i ≤ L then oz_pk T L rem (i + 1) (max u (r + 1)) (oz_up F r (F r + T i)) (oz_up A i r) k else none) (r + 1) = oz_pk T L rem (i + 1) (max u (r + 1)) (oz_up F r (F r + T i)) (oz_up A i r) k := by
            show (oz_pf _ r).or (if F r + T i ≤ L then _ else none) = _
            rw [x1, if_pos c]; rfl
          have step : f_Mod_packs_10 (F_Mod_packs fuel) (nI i) (nI n) (nI u) (nI k) (nI L) (f + 1) (nI r) x = if (oz_pk T L rem (i + 1) (max u (r + 1)) (oz_up F r (F r + T i)) (oz_up A i r) k).isSome = true then some (Sum.inr (true, t)) else f_Mod_packs_10 (F_Mod_packs fuel) (nI i) (nI n) (nI u) (nI k) (nI L) f (nI (r + 1)) (lf_w t 401 r (nI (L - F r))) := by
            rw [f_Mod_packs_10, oz_ilt_f (by omega) (by omega), oz_ile_f ck (by omega)]
            by_cases cu : r = u
            · subst cu
              have hF0r := hF0 r (by omega)
              rw [hF0r] at c k1 ⊢
              rw [Nat.zero_add] at k1 c ⊢
              rw [show max r (r + 1) = r + 1 by omega] at k1 ⊢
              rw [if_pos rfl]
              simp (disch := first | assumption | omega) only [lf_lt, oz_ck, x3i, oz_sub, pl_1, nI_add, k1, Option.bind_some, Nat.sub_zero, if_true]
              rw [oz_ile_t (by omega) (by omega)]
            · have x1r : x.1 401 r = nI (L - F r) := by rw [x3 r (by omega)]; exact h1 r (by omega)
              rw [show max u (r + 1) = u by omega] at k1 ⊢
              rw [if_neg (by rw [oz_eq (by omega) (by omega)]; exact cu)]
              rw [show L - (F r + T i) = L - F r - T i by omega] at k1
              simp (disch := first | assumption | omega) only [lf_lt, oz_ck, x3i, x1r, oz_sub, pl_1, nI_add]
              rw [oz_ile_t (by omega) (by omega), if_neg (by rw [oz_eq (by omega) (by omega)]; exact cu), k1, Option.bind_some]
          cases hc : oz_pk T L rem (i + 1) (max u (r + 1)) (oz_up F r (F r + T i)) (oz_up A i r) k with
          | none =>
            left
            rw [hc] at es step y2
            have y2' := y2 rfl
            refine ⟨lf_w t 401 r (nI (L - F r)), ⟨es, oz_fr_tr frt (oz_fr_w (by omega)), fun r' hr' => ?_, fun j hj => ?_⟩, step.trans (if_neg (by simp))⟩
            · by_cases cr : r' = r
              · rw [cr, oz_w_s]; exact (h1 r (by omega)).symm
              · rw [oz_w_n cr, y2'.1 r' (by omega), oz_w_o (by omega), oz_w_n cr]; exact x3 r' hr'
            · rw [oz_w_o (by omega), y2'.2 j (by omega), oz_w_n (by omega), oz_w_o (by omega)]; exact x4 j hj
          | some B =>
            right
            rw [hc] at es step y3
            have em : oz_pf (fun r => if F r + T i ≤ L then oz_pk T L rem (i + 1) (max u (r + 1)) (oz_up F r (F r + T i)) (oz_up A i r) k else none) (u + 1) = some B := by
              have := oz_pf_mono es (u - r)
              rw [show r + 1 + (u - r) = u + 1 by omega] at this
              exact this
            rw [em, step]
            exact ⟨t, rfl, frt, fun z => (nomatch z), fun B' hB' => by cases hB'; exact y3 B rfl⟩
        · left
          refine ⟨x, ⟨?_, x2, x3, x4⟩, ?_⟩
          · show (oz_pf _ r).or (if F r + T i ≤ L then _ else none) = none
            rw [x1, if_neg c]; rfl
          · rw [f_Mod_packs_10, oz_ilt_f (by omega) (by omega), oz_ile_f ck (by omega)]
            by_cases cu : r = u
            · subst cu
              have hF0r := hF0 r (by omega)
              rw [hF0r] at c
              rw [if_pos rfl]
              simp (disch := first | assumption | omega) only [lf_lt, oz_ck, x3i, pl_1, nI_add]
              rw [oz_ile_f (by omega) (by omega)]
            · have x1r : x.1 401 r = nI (L - F r) := by rw [x3 r (by omega)]; exact h1 r (by omega)
              rw [if_neg (by rw [oz_eq (by omega) (by omega)]; exact cu)]
              simp (disch := first | assumption | omega) only [lf_lt, oz_ck, x3i, x1r, pl_1, nI_add]
              rw [oz_ile_f (by omega) (by omega)]
      · right
        have en : oz_pf (fun r => if F r + T i ≤ L then oz_pk T L rem (i + 1) (max u (r + 1)) (oz_up F r (F r + T i)) (oz_up A i r) k else none) (u + 1) = none := by
          refine oz_pf_nn _ (fun r' hr' => ?_)
          by_cases c1 : r' < r
          · exact oz_pf_none _ x1 r' c1
          · show (if F r' + T i ≤ L then _ else none) = none
            split
            · cases hz : oz_pk T L rem (i + 1) (max u (r' + 1)) (oz_up F r' (F r' + T i)) (oz_up A i r') k with
              | none => rfl
              | some B => have := oz_pk_u _ _ _ _ _ _ hz; omega
            · rfl
        rw [en]
        refine ⟨x, ?_, x2, fun _ => ⟨x3, x4⟩, fun B hB => (nomatch hB)⟩
        rw [f_Mod_packs_10, oz_ilt_f (by omega) (by omega), oz_ile_t (by omega) (by omega)]; rfl
theorem m_rodsFor (hn : n ≤ 8) {f : Nat} (hf : f ≤ 6) (hT : ∀ j, j < n → T j ≤ 255) (h3 : ∀ j, j < n → s.1 394 j = nI (T j)) : ∃ t, f_Mod_rodsFor (nI n) (nI f) s = some (oz_en (oz_rd T n (12 * f)), t) ∧ oz_fr (fun p => p = 401 ∨ p = 402) s t ∧ ∀ m, oz_rd T n (12 * f) = some m → ∃ A, oz_pk0 T n (12 * f) m = some A ∧ ∀ j, j < n → t.1 402 j = nI (A j) := by
  have key := oz_search (N := n) (fun g i => f_Mod_rodsFor_2 (nI n) (nI f) g (nI i) s) (fun i => decide (12 * f < T i)) (Sum.inl s) (fun _ => Sum.inr (oz_N, s)) (by
      intro g
      rw [f_Mod_rodsFor_2, oz_ile_t (by omega) (by omega)]) (by
      intro g i hi
      have hTi := hT i hi
      rw [f_Mod_rodsFor_2, oz_ile_f hi (by omega), oz_ck (by omega) (by omega), h3 i hi, pl_12, pk_mul]
      by_cases c : T i ≤ 12 * f
      · rw [oz_ile_t c (by omega), if_neg (by simpa using c)]
        simp only [lf_lt, pl_1, nI_add]
      · rw [oz_ile_f (by omega) (by omega), if_pos (by simp; omega), pl_1, oz_neg1]) n 0 5000 (by omega) (by omega)
  unfold f_Mod_rodsFor
  simp only [lf_lt, pl_0, key, Option.bind_some]
  cases hc : oz_fst (fun i => decide (12 * f < T i)) 0 n with
  | some j =>
    obtain ⟨c1, _, c2, _⟩ := oz_fst_sp _ _ hc
    have c1' := of_decide_eq_true c1
    have e : oz_rd T n (12 * f) = none := oz_rd_f (fun k => by
      cases hz : oz_pk0 T n (12 * f) k with
      | none => rfl
      | some B => have := oz_pk_T _ _ _ _ _ _ hz j (by omega) (by omega); omega)
    rw [e]
    exact ⟨s, rfl, oz_fr_rf, fun m hm => (nomatch hm)⟩
  | none =>
    have hall : ∀ j, j < n → T j ≤ 12 * f := by
      intro j hj
      by_cases c : T j ≤ 12 * f
      · exact c
      · exfalso
        have : ∀ k i, i ≤ j → j < i + k → oz_fst (fun i => decide (12 * f < T i)) i k ≠ none := by
          intro k
          induction k with
          | zero => intro i h1 h2; omega
          | succ k ih =>
            intro i h1 h2 e
            unfold oz_fst at e
            split at e
            · cases e
            · rename_i cc
              by_cases ci : i = j
              · rw [ci] at cc; exact cc (decide_eq_true (by omega))
              · exact ih (i + 1) (by omega) (by omega) e
        exact this n 0 (by omega) (by omega) hc
    have hex := oz_pk_ex (T := T) (L := 12 * f) (k := n) n 0 0 oz_z oz_z (fun j _ hj => hall j (by omega)) (fun _ _ => rfl) (by omega)
    show ∃ t, (f_Mod_rodsFor_30 (nI n) (nI f) 5000 (nI 0) s).bind _ = _ ∧ _
    refine oz_forS (N := n + 1) (fun k (x : lf_S) => (∀ k', k' < k → oz_pk0 T n (12 * f) k' = none) ∧ oz_fr (fun p => p = 401 ∨ p = 402) s x) (fun g k x => f_Mod_rodsFor_30 (nI n) (nI f) g (nI k) x) (fun o => ∃ t, o.bind (fun p10 => some (p10.1, p10.2)) = some (oz_en (oz_rd T n (12 * f)), t) ∧ oz_fr (fun p => p = 401 ∨ p = 402) s t ∧ ∀ m, oz_rd T n (12 * f) = some m → ∃ A, oz_pk0 T n (12 * f) m = some A ∧ ∀ j, j < n → t.1 402 j = nI (A j)) ?_ ?_ (n + 1) 0 5000 s (by omega) (by omega) ⟨fun k' hk' => absurd hk' (by omega), oz_fr_rf⟩
    · intro g x hx
      exact absurd (hx.1 n (by omega)) hex
    · intro g k x hk hx
      obtain ⟨x1, x2⟩ := hx
      obtain ⟨t, k1, y1, y2, y3⟩ := m_packs (T := T) (L := 12 * f) (k := k) hn (by omega) (by omega) hT n 0 0 oz_z oz_z x 64 (by omega) (by omega) (by omega) (by omega) (fun r => Nat.zero_le _) (fun _ _ => rfl) (fun j hj => by rw [x2.1 394 (by omega)]; exact h3 j hj) (fun r hr => absurd hr (by omega)) (fun j hj => absurd hj (by omega))
      have step : f_Mod_rodsFor_30 (nI n) (nI f) (g + 1) (nI k) x = if (oz_pk0 T n (12 * f) k).isSome = true then some (nI k, t) else f_Mod_rodsFor_30 (nI n) (nI f) g (nI (k + 1)) t := by
        rw [f_Mod_rodsFor_30]
        unfold f_Mod_packs
        rw [pl_0, pl_12, pk_mul, k1, Option.bind_some]
        simp only [lf_lt, pl_1, nI_add]
        rfl
      cases hc : oz_pk0 T n (12 * f) k with
      | none =>
        left
        rw [hc] at step
        refine ⟨t, ⟨fun k' hk' => ?_, oz_fr_tr x2 y1⟩, step.trans (if_neg (by simp))⟩
        by_cases c : k' = k
        · rw [c]; exact hc
        · exact x1 k' (by omega)
      | some B =>
        right
        rw [hc] at step
        rw [step]
        have e := oz_rd_t hc x1
        rw [e]
        refine ⟨t, rfl, oz_fr_tr x2 y1, fun m hm => ?_⟩
        cases hm
        exact ⟨B, hc, y3 B hc⟩
theorem m_pieceMany25 {c1 : Int32} (h4 : ∀ i, i < len → T i ≤ 255 ∧ s.1 394 i = nI (T i)) (hl : len ≤ 400) : f_Mod_pieceMany_25 c1 (nI len) 5000 (nI 1) (nI 0) s = some (lf_i (oz_ok (oz_pc T) len), s) := by
  obtain ⟨y, k1, k2⟩ := oz_forB (N := len) (fun i (x : Bool) => x = oz_ok (oz_pc T) i) (fun f i x => f_Mod_pieceMany_25 c1 (nI len) f (lf_i x) (nI i) s) (fun x => (lf_i x, s)) (by
      intro f x hx
      simp (disch := first | assumption | omega) only [f_Mod_pieceMany_25, lf_lt, Option.bind_some, nI_add, pk_mul, oz_sub, oz_addm1, oz_div, oz_mod, oz_ck, oz_nz, oz_le_t, oz_le_f, oz_lt_t, oz_lt_f, oz_eq_t, oz_eq_f, oz_eqm1, oz_m1eq, oz_neg1, oz_m1lt, oz_ltm1, oz_lem1, oz_m1le, oz_mx, oz_mn, if_true, if_false, ite_true, ite_false, oz_md_r, oz_md_o, oz_md_w, oz_md_wo, oz_md_2, Sum.elim_inl, Sum.elim_inr, pl_0, pl_1, pl_2, pl_3, pl_4, pl_5, pl_6, pl_7, pl_8, pl_9, pl_10, pl_11, pl_12, pl_13]) (by
      intro f i x hi hx
      have e1 := h4 i (by omega)
      cases x with
      | false =>
        right
        refine ⟨?_, ?_⟩
        · rw [f_Mod_pieceMany_25, oz_ile_f (by omega) (by omega), if_pos (by decide +kernel)]
        · cases hz : oz_ok (oz_pc T) len with
          | false => rfl
          | true =>
            rw [oz_ok_t] at hz
            have : oz_ok (oz_pc T) i = true := (oz_ok_t i).2 (fun j hj => hz j (by omega))
            rw [this] at hx
            exact hx
      | true =>
        left
        refine ⟨oz_pc T i, ?_, ?_⟩
        · show oz_pc T i = (oz_ok (oz_pc T) i && oz_pc T i)
          rw [← hx]; rfl
        · rw [f_Mod_pieceMany_25, oz_ile_f (by omega) (by omega), if_neg (by decide +kernel), oz_ck (by omega) (by omega), e1.2, pl_1, pl_72, m_isIn (by omega) (by omega) (by omega)]
          simp only [lf_lt, nI_add, Option.bind_some]
          rfl) len 0 5000 true (by omega) (by omega) rfl
  rw [k2] at k1
  exact k1
def oz_pcF (T : Nat → Nat) (len : Nat) (x : Int32) : Nat := if 1 ≤ x.toInt ∧ x.toInt ≤ 6 then (if oz_pcs T len = true then 0 else 2) else 1
theorem m_pieceMany (h : oz_T s T len) (x : Int32) : f_Mod_pieceMany x s = some (nI len, lf_w (lf_w s 389 8 (nI 0)) 389 0 (nI (oz_pcF T len x))) := by
  obtain ⟨h1, h2, h3, h4⟩ := h
  have hs : ∀ i, i < len → T i ≤ 255 ∧ (lf_w s 389 8 (nI 0)).1 394 i = nI (T i) := fun i hi => ⟨(h4 i hi).1, by rw [oz_w_o (by omega)]; exact (h4 i hi).2.2⟩
  have fin : ∀ b, b = oz_pcs T len → (f_Mod_isIn x (nI 1) (nI 6)).bind (fun p10 => (if p10 = true then (if lf_i b = nI 0 then some (nI len, lf_w (lf_w s 389 8 (nI 0)) 389 0 (nI 2)) else some (nI len, lf_w (lf_w s 389 8 (nI 0)) 389 0 (nI 0))) else some (nI len, lf_w (lf_w s 389 8 (nI 0)) 389 0 (nI 1)))) = some (nI len, lf_w (lf_w s 389 8 (nI 0)) 389 0 (nI (oz_pcF T len x))) := by
    intro b hb
    unfold oz_pcF
    rcases oz_isft x with ⟨f, f1, f2, f3, f4⟩ | ⟨f1, f2⟩
    · have hf : 1 ≤ ((f : Nat) : Int) ∧ ((f : Nat) : Int) ≤ 6 := by omega
      rw [f4, if_pos hf, f3, m_isIn_t f1 f2 (by omega), Option.bind_some, if_pos rfl, ← hb]
      cases b with
      | true => exact if_neg (by decide +kernel)
      | false => exact if_pos (by decide +kernel)
    · rw [if_neg f2, m_isIn_o f1]; rfl
  unfold f_Mod_pieceMany
  simp only [lf_lt, pl_0, pl_1, pl_2, pl_6, h2]
  by_cases c : 8 < len
  · rw [pl_8, oz_ilt_t c (by omega)]
    have e : f_Mod_pieceMany_25 x (nI len) 5000 (nI 0) (nI 0) (lf_w s 389 8 (nI 0)) = some (lf_i false, lf_w s 389 8 (nI 0)) := by
      rw [f_Mod_pieceMany_25, oz_ile_f (by omega) (by omega), if_pos (by decide +kernel)]; rfl
    rw [e, Option.bind_some]
    exact fin false (by unfold oz_pcs; rw [decide_eq_false (by omega)]; rfl)
  · rw [pl_8, oz_ilt_f (by omega) (by omega), m_pieceMany25 hs h3, Option.bind_some]
    exact fin _ (by unfold oz_pcs; rw [decide_eq_true (by omega), if_pos (by omega)]; rfl)
theorem m_pieces (h : oz_T s T len) (x : Int32) : ∃ t, f_Mod_pieces x s = some ((oz_pcR T len x (fun f => oz_en (oz_rd T len (12 * f)))).elim (fun _ => nI 0) id, t) ∧ t.1 389 0 = nI (oz_pcF T len x) ∧ t.1 389 8 = nI 0 ∧ oz_fr (fun p => p = 389 ∨ (401 ≤ p ∧ p ≤ 402)) s t ∧ ∀ j, j ≠ 8 → j ≠ 0 → t.1 389 j = s.1 389 j := by
  have fr0 : ∀ v, oz_fr (fun p => p = 389 ∨ (401 ≤ p ∧ p ≤ 402)) s (lf_w (lf_w s 389 8 (nI 0)) 389 0 v) := fun v => oz_fr_tr (oz_fr_w (by omega)) (oz_fr_w (by omega))
  unfold f_Mod_pieces
  rw [m_pieceMany h x, Option.bind_some]
  simp only [lf_lt, pl_0, oz_w_s]
  unfold oz_pcF oz_pcR
  rcases oz_isft x with ⟨f, f1, f2, f3, f4⟩ | ⟨f1, f2⟩
  · have hf : 1 ≤ ((f : Nat) : Int) ∧ ((f : Nat) : Int) ≤ 6 := by omega
    rw [f4, if_pos hf, if_pos hf, f3]
    cases c : oz_pcs T len with
    | true =>
      have hl := oz_pcs_l c
      rw [if_pos rfl, if_pos rfl, oz_ile_t (by omega) (by omega)]
      obtain ⟨t, k1, k2, k3⟩ := m_rodsFor (s := lf_w (lf_w s 389 8 (nI 0)) 389 0 (nI 0)) (T := T) hl f2 (fun j hj => (h.2.2.2 j hj).1) (fun j hj => by rw [oz_w_o (by omega), oz_w_o (by omega)]; exact (h.2.2.2 j hj).2.2)
      rw [k1, Option.bind_some, show ((f : Nat) : Int).toNat = f from Int.toNat_natCast f]
      refine ⟨t, rfl, ?_, ?_, oz_fr_tr (fr0 _) (oz_fr_mono k2 (by omega)), fun j h1 h2 => ?_⟩
      · rw [k2.1 389 (by omega)]; exact oz_w_s
      · rw [k2.1 389 (by omega), oz_w_n (by omega)]; exact oz_w_s
      · rw [k2.1 389 (by omega), oz_w_n h2, oz_w_n h1]
    | false =>
      rw [if_neg (show ¬ (false = true) from Bool.noConfusion), if_neg (show ¬ (false = true) from Bool.noConfusion), oz_ile_f (by omega) (by omega)]
      exact ⟨_, rfl, oz_w_s, by rw [oz_w_n (by omega)]; exact oz_w_s, fr0 _, fun j h1 h2 => by rw [oz_w_n h2, oz_w_n h1]⟩
  · rw [if_neg f2, if_neg f2, oz_ile_f (by omega) (by omega)]
    exact ⟨_, rfl, oz_w_s, by rw [oz_w_n (by omega)]; exact oz_w_s, fr0 _, fun j h1 h2 => by rw [oz_w_n h2, oz_w_n h1]⟩
theorem m_rod (h : oz_T s T len) (x y : Int32) : ∃ t, f_Mod_rod x y s = some ((oz_pcR T len x (fun f => oz_rod T len (12 * f) y)).elim (fun _ => nI 0) id, t) ∧ t.1 389 0 = nI (oz_pcF T len x) ∧ t.1 389 8 = nI 0 ∧ oz_fr (fun p => p = 389 ∨ (401 ≤ p ∧ p ≤ 402)) s t ∧ ∀ j, j ≠ 8 → j ≠ 0 → t.1 389 j = s.1 389 j := by
  have fr0 : ∀ v, oz_fr (fun p => p = 389 ∨ (401 ≤ p ∧ p ≤ 402)) s (lf_w (lf_w s 389 8 (nI 0)) 389 0 v) := fun v => oz_fr_tr (oz_fr_w (by omega)) (oz_fr_w (by omega))
  unfold f_Mod_rod
  rw [m_pieceMany h x, Option.bind_some]
  simp only [lf_lt, pl_0, oz_w_s]
  unfold oz_pcF oz_pcR
  rcases oz_isft x with ⟨f, f1, f2, f3, f4⟩ | ⟨f1, f2⟩
  · have hf : 1 ≤ ((f : Nat) : Int) ∧ ((f : Nat) : Int) ≤ 6 := by omega
    rw [f4, if_pos hf, if_pos hf, f3]
    cases c : oz_pcs T len with
    | true =>
      have hl := oz_pcs_l c
      rw [if_pos rfl, if_pos rfl, oz_ile_t (by omega) (by omega)]
      obtain ⟨t, k1, k2, k3⟩ := m_rodsFor (s := lf_w (lf_w s 389 8 (nI 0)) 389 0 (nI 0)) (T := T) hl f2 (fun j hj => (h.2.2.2 j hj).1) (fun j hj => by rw [oz_w_o (by omega), oz_w_o (by omega)]; exact (h.2.2.2 j hj).2.2)
      rw [k1, Option.bind_some, show ((f : Nat) : Int).toNat = f from Int.toNat_natCast f]
      refine ⟨t, ?_, ?_, ?_, oz_fr_tr (fr0 _) (oz_fr_mono k2 (by omega)), fun j h1 h2 => ?_⟩
      · unfold oz_rod
        try dsimp only
        rw [pl_1, oz_neg1]
        cases hm : oz_rd T len (12 * f) with
        | none => exact if_pos rfl
        | some m =>
          obtain ⟨A, a1, a2⟩ := k3 m hm
          have hmm := (oz_fst_sp _ _ hm).2.2.1
          rw [if_neg (show ¬ oz_en (some m) = oz_N from of_eq_false (oz_eqm1 (by omega)))]
          try dsimp only
          rw [a1]
          try dsimp only
          by_cases c2 : 0 ≤ y.toInt ∧ y.toInt < len
          · have e : y.toInt = ((y.toInt.toNat : Nat) : Int) := by omega
            have ey := oz_toInt_eq e (by omega)
            rw [if_pos c2]
            have hv : y.toInt.toNat < len := by omega
            generalize y.toInt.toNat = v at *
            rw [ey, m_isIx_t hv (by omega), Option.bind_some, if_pos rfl, oz_ck (by omega) (by omega), a2 v (by omega)]
            rfl
          · rw [if_neg c2]
            have co : y < nI 0 ∨ (¬ y < nI 0 ∧ nI len - nI 1 < y) := by
              rw [Int32.lt_iff_toInt_lt, Int32.lt_iff_toInt_lt, pk_sub_toInt (by omega) (by omega), oz_ti (by omega)]
              omega
            rw [m_isIn_o co]
            rfl
      · rw [k2.1 389 (by omega)]; exact oz_w_s
      · rw [k2.1 389 (by omega), oz_w_n (by omega)]; exact oz_w_s
      · rw [k2.1 389 (by omega), oz_w_n h2, oz_w_n h1]
    | false =>
      rw [if_neg (show ¬ (false = true) from Bool.noConfusion), if_neg (show ¬ (false = true) from Bool.noConfusion), oz_ile_f (by omega) (by omega)]
      exact ⟨_, rfl, oz_w_s, by rw [oz_w_n (by omega)]; exact oz_w_s, fr0 _, fun j h1 h2 => by rw [oz_w_n h2, oz_w_n h1]⟩
  · rw [if_neg f2, if_neg f2, oz_ile_f (by omega) (by omega)]
    exact ⟨_, rfl, oz_w_s, by rw [oz_w_n (by omega)]; exact oz_w_s, fr0 _, fun j h1 h2 => by rw [oz_w_n h2, oz_w_n h1]⟩
end
