/-! ===== pieces cut from the fewest rods: the class's ===== -/
def oz_pf {β : Type} (g : Nat → Option β) : Nat → Option β
  | 0 => none
  | j + 1 => (oz_pf g j).or (g j)
def oz_pk (T : Nat → Nat) (L : Nat) : Nat → Nat → Nat → (Nat → Nat) → (Nat → Nat) → Nat → Option (Nat → Nat)
  | 0, _, u, _, A, k => if u ≤ k then some A else none
  | m + 1, i, u, F, A, k => oz_pf (fun r => if F r + T i ≤ L then oz_pk T L m (i + 1) (max u (r + 1)) (oz_up F r (F r + T i)) (oz_up A i r) k else none) (u + 1)
theorem oz_pf_some {β : Type} {g : Nat → Option β} {x : β} : ∀ n, oz_pf g n = some x → ∃ r, r < n ∧ g r = some x ∧ oz_pf g r = none := by
  intro n
  induction n with
  | zero => intro h; cases h
  | succ n ih =>
    intro h
    change (oz_pf g n).or (g n) = some x at h
    cases c : oz_pf g n with
    | none => rw [c] at h; exact ⟨n, by omega, h, c⟩
    | some y =>
      rw [c] at h
      obtain ⟨r, h1, h2, h3⟩ := ih (c.trans h)
      exact ⟨r, by omega, h2, h3⟩
theorem oz_pf_none {β : Type} {g : Nat → Option β} : ∀ n, oz_pf g n = none → ∀ r, r < n → g r = none := by
  intro n
  induction n with
  | zero => intro _ r hr; omega
  | succ n ih =>
    intro h r hr
    change (oz_pf g n).or (g n) = none at h
    cases c : oz_pf g n with
    | none =>
      rw [c] at h
      by_cases cr : r = n
      · rw [cr]; exact h
      · exact ih c r (by omega)
    | some y => rw [c] at h; cases h
theorem oz_pk_u {T : Nat → Nat} {L k : Nat} : ∀ m i u F A B, oz_pk T L m i u F A k = some B → u ≤ k := by
  intro m
  induction m with
  | zero =>
    intro i u F A B h
    unfold oz_pk at h
    split at h
    · assumption
    · cases h
  | succ m ih =>
    intro i u F A B h
    unfold oz_pk at h
    obtain ⟨r, _, h2, _⟩ := oz_pf_some _ h
    split at h2
    · have := ih _ _ _ _ _ h2; omega
    · cases h2
theorem oz_pk_T {T : Nat → Nat} {L k : Nat} : ∀ m i u F A B, oz_pk T L m i u F A k = some B → ∀ j, i ≤ j → j < i + m → T j ≤ L := by
  intro m
  induction m with
  | zero => intro i u F A B _ j h1 h2; omega
  | succ m ih =>
    intro i u F A B h j h1 h2
    unfold oz_pk at h
    obtain ⟨r, _, h2, _⟩ := oz_pf_some _ h
    split at h2
    · by_cases c : j = i
      · rw [c]; omega
      · exact ih _ _ _ _ _ h2 j (by omega) (by omega)
    · cases h2
theorem oz_pk_ex {T : Nat → Nat} {L k : Nat} : ∀ m i u F A, (∀ j, i ≤ j → j < i + m → T j ≤ L) → (∀ r, u ≤ r → F r = 0) → u + m ≤ k → oz_pk T L m i u F A k ≠ none := by
  intro m
  induction m with
  | zero =>
    intro i u F A _ _ h
    unfold oz_pk
    rw [if_pos (by omega)]
    exact fun e => nomatch e
  | succ m ih =>
    intro i u F A hT hF h e
    unfold oz_pk at e
    have e2 := oz_pf_none _ e u (by omega)
    have := hT i (by omega) (by omega)
    rw [if_pos (by rw [hF u (by omega)]; omega)] at e2
    exact ih (i + 1) (max u (u + 1)) _ _ (fun j h1 h2 => hT j (by omega) (by omega)) (fun r hr => by rw [oz_up_n (by omega)]; exact hF r (by omega)) (by omega) e2
def oz_bl (k : Nat) (b : Option Nat) : Prop := ∀ m, b = some m → k < m
/-- what a search leaves: b before, b' after -/
def oz_LB {α : Type} (b b' : Option Nat) (f : Nat → Option α) (same : Prop) (kept : α → Prop) : Prop := (∀ k, oz_bl k b' → f k = none) ∧ ((b' = b ∧ same) ∨ ∃ m A', b' = some m ∧ oz_bl m b ∧ f m = some A' ∧ kept A')
theorem oz_LB.no {α : Type} {b b' : Option Nat} {f : Nat → Option α} {same : Prop} {kept : α → Prop} (h : oz_LB b b' f same kept) : ∀ k, oz_bl k b' → f k = none := h.1
theorem oz_LB.ch {α : Type} {b b' : Option Nat} {f : Nat → Option α} {same : Prop} {kept : α → Prop} (h : oz_LB b b' f same kept) : (b' = b ∧ same) ∨ ∃ m A', b' = some m ∧ oz_bl m b ∧ f m = some A' ∧ kept A' := h.2
theorem oz_LB_or {α : Type} {b b1 b2 : Option Nat} {f g : Nat → Option α} {s1 s2 s3 : Prop} {k1 k2 k3 : α → Prop} (h : oz_LB b b1 f s1 k1) (h' : oz_LB b1 b2 g s2 k2) (e1 : s1 → s2 → s3) (e2 : ∀ A, k1 A → s2 → k3 A) (e3 : ∀ A, k2 A → k3 A) : oz_LB b b2 (fun k => (f k).or (g k)) s3 k3 := by
  have nf : ∀ k, oz_bl k b2 → f k = none := by
    intro k hk
    apply h.no
    rcases h'.ch with ⟨e, _⟩ | ⟨m, A', e, hb, _, _⟩
    · rw [← e]; exact hk
    · intro m1 hm1
      have a := hk m e
      have c := hb m1 hm1
      omega
  refine ⟨fun k hk => ?_, ?_⟩
  · show (f k).or (g k) = none
    rw [nf k hk, h'.no k hk]; rfl
  · rcases h'.ch with ⟨e, hs⟩ | ⟨m, A', e, hb, hg, hk⟩
    · rcases h.ch with ⟨e0, hs0⟩ | ⟨m, A', e0, hb, hf, hk⟩
      · exact Or.inl ⟨e.trans e0, e1 hs0 hs⟩
      · refine Or.inr ⟨m, A', e.trans e0, hb, ?_, e2 A' hk hs⟩
        show (f m).or (g m) = _
        rw [hf]; rfl
    · refine Or.inr ⟨m, A', e, ?_, ?_, e3 A' hk⟩
      · rcases h.ch with ⟨e0, _⟩ | ⟨m1, A1, e0, hb1, _, _⟩
        · rw [← e0]; exact hb
        · intro m2 hm2
          have a := hb m1 e0
          have c := hb1 m2 hm2
          omega
      · show (f m).or (g m) = _
        rw [h.no m hb]; exact hg
theorem oz_LB_no {α : Type} {b : Option Nat} {f : Nat → Option α} {s1 : Prop} {k1 : α → Prop} (h : ∀ k, oz_bl k b → f k = none) (hs : s1) : oz_LB b b f s1 k1 := ⟨h, Or.inl ⟨rfl, hs⟩⟩
section
variable {s : lf_S} {T : Nat → Nat} {L n : Nat}
def oz_TR (s t : lf_S) (i n : Nat) (b b' : Option Nat) (f : Nat → Option (Nat → Nat)) : Prop := (oz_fr (fun p => p = 3 ∨ p = 5 ∨ p = 6 ∨ p = 7) s t) ∧ (∀ r, r < 8 → t.1 7 r = s.1 7 r) ∧ (∀ j, j < i → t.1 6 j = s.1 6 j) ∧ (∀ j, j ≠ 5 → t.1 3 j = s.1 3 j) ∧ (t.1 3 5 = oz_en b') ∧ (∀ m, b' = some m → m ≤ 8) ∧ (oz_LB b b' f (t.1 5 = s.1 5) (fun A' => ∀ j, j < n → t.1 5 j = nI (A' j)))
theorem oz_TR.fr {s t : lf_S} {i n : Nat} {b b' : Option Nat} {f : Nat → Option (Nat → Nat)} (h : oz_TR s t i n b b' f) : oz_fr (fun p => p = 3 ∨ p = 5 ∨ p = 6 ∨ p = 7) s t := h.1
theorem oz_TR.c7 {s t : lf_S} {i n : Nat} {b b' : Option Nat} {f : Nat → Option (Nat → Nat)} (h : oz_TR s t i n b b' f) : ∀ r, r < 8 → t.1 7 r = s.1 7 r := h.2.1
theorem oz_TR.c6 {s t : lf_S} {i n : Nat} {b b' : Option Nat} {f : Nat → Option (Nat → Nat)} (h : oz_TR s t i n b b' f) : ∀ j, j < i → t.1 6 j = s.1 6 j := h.2.2.1
theorem oz_TR.c3 {s t : lf_S} {i n : Nat} {b b' : Option Nat} {f : Nat → Option (Nat → Nat)} (h : oz_TR s t i n b b' f) : ∀ j, j ≠ 5 → t.1 3 j = s.1 3 j := h.2.2.2.1
theorem oz_TR.c5 {s t : lf_S} {i n : Nat} {b b' : Option Nat} {f : Nat → Option (Nat → Nat)} (h : oz_TR s t i n b b' f) : t.1 3 5 = oz_en b' := h.2.2.2.2.1
theorem oz_TR.l8 {s t : lf_S} {i n : Nat} {b b' : Option Nat} {f : Nat → Option (Nat → Nat)} (h : oz_TR s t i n b b' f) : ∀ m, b' = some m → m ≤ 8 := h.2.2.2.2.2.1
theorem oz_TR.lb {s t : lf_S} {i n : Nat} {b b' : Option Nat} {f : Nat → Option (Nat → Nat)} (h : oz_TR s t i n b b' f) : oz_LB b b' f (t.1 5 = s.1 5) (fun A' => ∀ j, j < n → t.1 5 j = nI (A' j)) := h.2.2.2.2.2.2
theorem c_keepTried {x : Int32} : ∃ t, f_Ways_keepTried x s = some t ∧ t.1 3 5 = x ∧ (∀ j, j < 8 → t.1 5 j = s.1 6 j) ∧ oz_fr (fun p => p = 3 ∨ p = 5) s t ∧ ∀ j, j ≠ 5 → t.1 3 j = s.1 3 j := by
  unfold f_Ways_keepTried
  simp (disch := first | assumption | omega) only [lf_lt, pl_0, pl_8, oz_cpk]
  refine ⟨_, rfl, ?_, fun j hj => ?_, oz_fr_tr (oz_fr_w (by omega)) (oz_fr_cp (by omega)), fun j hj => ?_⟩
  · rw [oz_cp_o (by omega)]; exact oz_w_s
  · rw [oz_cp_s hj, oz_w_o (by omega)]
  · rw [oz_cp_o (by omega), oz_w_n hj]
theorem c_tryRods (hn : n ≤ 8) (hL : L < 1000) (hT : ∀ j, j < n → T j ≤ 255) : ∀ rem i u F A (b : Option Nat) (s : lf_S) fuel, i + rem = n → rem < fuel → u ≤ i → (∀ r, F r ≤ L) → s.1 3 0 = nI n → (∀ j, j < n → s.1 4 j = nI (T j)) → (∀ r, r < 8 → s.1 7 r = nI (F r)) → (∀ j, j < i → s.1 6 j = nI (A j)) → s.1 3 5 = oz_en b → (∀ m, b = some m → m ≤ 8) →
    ∃ t b', F_Ways_tryRods fuel (nI i) (nI u) (nI L) s = some t ∧ oz_TR s t i n b b' (oz_pk T L rem i u F A) := by
  intro rem
  induction rem with
  | zero =>
    intro i u F A b s fuel hi hf hu hF h0 h4 h7 h6 h5 hb
    obtain ⟨fuel, rfl⟩ : ∃ m, fuel = m + 1 := ⟨fuel - 1, by omega⟩
    obtain rfl : i = n := by omega
    obtain ⟨t, k1, k2, k3, k4, k5⟩ := c_keepTried (s := s) (x := nI u)
    have done : oz_bl u b → oz_TR s t i i b (some u) (oz_pk T L 0 i u F A) := by
      intro hub
      refine ⟨oz_fr_mono k4 (by omega), fun r hr => by rw [k4.1 7 (by omega)], fun j hj => by rw [k4.1 6 (by omega)], k5, k2, fun m hm => by cases hm; omega, ⟨fun k hk => ?_, Or.inr ⟨u, A, rfl, hub, if_pos (by omega), fun j hj => ?_⟩⟩⟩
      · have := hk u rfl
        exact if_neg (by omega)
      · rw [k3 j (by omega), h6 j hj]
    unfold F_Ways_tryRods fb_Ways_tryRods
    rw [h5, h0, k1, pl_1, oz_neg1]
    cases b with
    | none =>
      refine ⟨t, some u, ?_, done (fun m hm => by cases hm)⟩
      rw [if_pos (show oz_en none = oz_N from rfl), oz_ile_t (by omega) (by omega)]; rfl
    | some m =>
      have hm := hb m rfl
      have e1 : ¬ (oz_en (some m) = oz_N) := of_eq_false (oz_eqm1 (by omega))
      rw [if_neg e1]
      by_cases c : u < m
      · refine ⟨t, some u, ?_, done (fun m2 h2 => by cases h2; exact c)⟩
        rw [show oz_en (some m) = nI m from rfl, oz_ilt_t c (by omega), oz_ile_t (by omega) (by omega)]; rfl
      · refine ⟨s, some m, ?_, ⟨oz_fr_rf, fun _ _ => rfl, fun _ _ => rfl, fun _ _ => rfl, h5, hb, oz_LB_no (fun k hk => ?_) rfl⟩⟩
        · rw [show oz_en (some m) = nI m from rfl, oz_ilt_f (by omega) (by omega)]
        · have := hk m rfl
          exact if_neg (by omega)
  | succ rem ih =>
    intro i u F A b s fuel hi hf hu hF h0 h4 h7 h6 h5 hb
    obtain ⟨fuel, rfl⟩ : ∃ m, fuel = m + 1 := ⟨fuel - 1, by omega⟩
    have hTi := hT i (by omega)
    have body : ∃ t b', f_Ways_tryRods_48 (F_Ways_tryRods fuel) (nI i) (nI u) (nI L) (nI (T i)) 5000 (nI 0) s = some t ∧ oz_TR s t i n b b' (oz_pk T L (rem + 1) i u F A) := by
      obtain ⟨t, k1, b', k2⟩ := oz_forE (N := u + 1) (fun r (x : lf_S) => ∃ b', oz_TR s x i n b b' (fun k => oz_pf (fun r => if F r + T i ≤ L then oz_pk T L rem (i + 1) (max u (r + 1)) (oz_up F r (F r + T i)) (oz_up A i r) k else none) r)) (fun f r x => f_Ways_tryRods_48 (F_Ways_tryRods fuel) (nI i) (nI u) (nI L) (nI (T i)) f (nI r) x) (fun x => x) (by
        intro f x hx
        rw [f_Ways_tryRods_48, oz_ilt_t (by omega) (by omega)]) (by
        intro f r x hr hx
        obtain ⟨b1, X⟩ := hx
        have hFr := hF r
        have x7 : x.1 7 r = nI (F r) := by rw [X.c7 r (by omega)]; exact h7 r (by omega)
        by_cases c : F r + T i ≤ L
        · obtain ⟨t, b2, k1, Y⟩ := ih (i + 1) (max u (r + 1)) (oz_up F r (F r + T i)) (oz_up A i r) b1 (lf_w (lf_w x 7 r (nI (F r + T i))) 6 i (nI r)) fuel (by omega) (by omega) (by omega) (by
              intro r'
              by_cases cr : r' = r
              · rw [cr, oz_up_s]; exact c
              · rw [oz_up_n cr]; exact hF r') (by rw [oz_w_o (by omega), oz_w_o (by omega), X.c3 0 (by omega)]; exact h0) (by
              intro j hj
              rw [oz_w_o (by omega), oz_w_o (by omega), X.fr.1 4 (by omega)]; exact h4 j hj) (by
              intro r' hr'
              rw [oz_w_o (by omega)]
              by_cases cr : r' = r
              · rw [cr, oz_w_s, oz_up_s]
              · rw [oz_w_n cr, oz_up_n cr, X.c7 r' hr']; exact h7 r' hr') (by
              intro j hj
              by_cases cj : j = i
              · rw [cj, oz_w_s, oz_up_s]
              · rw [oz_w_n cj, oz_w_o (by omega), oz_up_n cj, X.c6 j (by omega)]; exact h6 j (by omega)) (by rw [oz_w_o (by omega), oz_w_o (by omega)]; exact X.c5) X.l8
          have t7 : t.1 7 r = nI (F r + T i) := by rw [Y.c7 r (by omega), oz_w_o (by omega)]; exact oz_w_s
          refine ⟨lf_w t 7 r (nI (F r)), ⟨b2, ?_⟩, ?_⟩
          · refine ⟨oz_fr_tr (oz_fr_tr (oz_fr_tr X.fr (oz_fr_w (by omega))) (oz_fr_w (by omega))) (oz_fr_tr Y.fr (oz_fr_w (by omega))), fun r' hr' => ?_, fun j hj => ?_, fun j hj => ?_, ?_, Y.l8, ?_⟩
            · by_cases cr : r' = r
              · rw [cr, oz_w_s]; exact (h7 r (by omega)).symm
              · rw [oz_w_n cr, Y.c7 r' hr', oz_w_o (by omega), oz_w_n cr]; exact X.c7 r' hr'
            · rw [oz_w_o (by omega), Y.c6 j (by omega), oz_w_n (by omega), oz_w_o (by omega)]; exact X.c6 j hj
            · rw [oz_w_o (by omega), Y.c3 j hj, oz_w_o (by omega), oz_w_o (by omega)]; exact X.c3 j hj
            · rw [oz_w_o (by omega)]; exact Y.c5
            · have e : (fun k => oz_pf (fun r => if F r + T i ≤ L then oz_pk T L rem (i + 1) (max u (r + 1)) (oz_up F r (F r + T i)) (oz_up A i r) k else none) (r + 1)) = (fun k => (oz_pf (fun r => if F r + T i ≤ L then oz_pk T L rem (i + 1) (max u (r + 1)) (oz_up F r (F r + T i)) (oz_up A i r) k else none) r).or (oz_pk T L rem (i + 1) (max u (r + 1)) (oz_up F r (F r + T i)) (oz_up A i r) k)) := by
                funext k
                show (oz_pf _ r).or (if F r + T i ≤ L then _ else none) = _
                rw [if_pos c]
              rw [e]
              refine oz_LB_or X.lb Y.lb (fun a b => ?_) (fun A' a b j hj => ?_) (fun A' a j hj => ?_)
              · rw [oz_w_o (by omega), b, oz_w_o (by omega), oz_w_o (by omega), a]
              · rw [oz_w_o (by omega), b, oz_w_o (by omega), oz_w_o (by omega)]; exact a j hj
              · rw [oz_w_o (by omega)]; exact a j hj
          · rw [f_Ways_tryRods_48, oz_ilt_f (by omega) (by omega), pl_8, oz_ile_f (by omega) (by omega), oz_ck (by omega) (by omega), x7, nI_add, oz_ilt_f c (by omega)]
            simp (disch := first | assumption | omega) only [lf_lt, pl_1, oz_ck, nI_add, oz_mx, x7, k1, Option.bind_some, t7, oz_sub]
            rw [show F r + T i - T i = F r by omega]
        · refine ⟨x, ⟨b1, ?_⟩, ?_⟩
          · have e : (fun k => oz_pf (fun r => if F r + T i ≤ L then oz_pk T L rem (i + 1) (max u (r + 1)) (oz_up F r (F r + T i)) (oz_up A i r) k else none) (r + 1)) = (fun k => oz_pf (fun r => if F r + T i ≤ L then oz_pk T L rem (i + 1) (max u (r + 1)) (oz_up F r (F r + T i)) (oz_up A i r) k else none) r) := by
              funext k
              show (oz_pf _ r).or (if F r + T i ≤ L then _ else none) = _
              rw [if_neg c]
              cases oz_pf _ r <;> rfl
            rw [e]; exact X
          · rw [f_Ways_tryRods_48, oz_ilt_f (by omega) (by omega), pl_8, oz_ile_f (by omega) (by omega), oz_ck (by omega) (by omega), x7, nI_add, oz_ilt_t (by omega) (by omega)]
            simp only [lf_lt, pl_1, nI_add]) (u + 1) 0 5000 s (by omega) (by omega) ⟨b, oz_fr_rf, fun _ _ => rfl, fun _ _ => rfl, fun _ _ => rfl, h5, hb, oz_LB_no (fun _ _ => rfl) rfl⟩
      exact ⟨t, b', k1, k2⟩
    obtain ⟨t, b', k1, k2⟩ := body
    unfold F_Ways_tryRods fb_Ways_tryRods
    rw [h5, h0, pl_1, oz_neg1]
    cases b with
    | none =>
      refine ⟨t, b', ?_, k2⟩
      rw [if_pos (show oz_en none = oz_N from rfl), oz_ile_f (by omega) (by omega), pl_8, oz_ilt_t (by omega) (by omega), oz_ck (by omega) (by omega), h4 i (by omega)]
      simp only [lf_lt, pl_0, k1, Option.bind_some]
    | some m =>
      have hm := hb m rfl
      have e1 : ¬ (oz_en (some m) = oz_N) := of_eq_false (oz_eqm1 (by omega))
      rw [if_neg e1]
      by_cases c : u < m
      · refine ⟨t, b', ?_, k2⟩
        rw [show oz_en (some m) = nI m from rfl, oz_ilt_t c (by omega), oz_ile_f (by omega) (by omega), pl_8, oz_ilt_t (by omega) (by omega), oz_ck (by omega) (by omega), h4 i (by omega)]
        simp only [lf_lt, pl_0, k1, Option.bind_some]
      · refine ⟨s, some m, ?_, ⟨oz_fr_rf, fun _ _ => rfl, fun _ _ => rfl, fun _ _ => rfl, h5, hb, oz_LB_no (fun k hk => ?_) rfl⟩⟩
        · rw [show oz_en (some m) = nI m from rfl, oz_ilt_f (by omega) (by omega)]
        · have := hk m rfl
          cases hz : oz_pk T L (rem + 1) i u F A k with
          | none => rfl
          | some B => have := oz_pk_u _ _ _ _ _ _ hz; omega
end
