/-! ===== a local that isn't known may be anything but a long ===== -/
def lf_nl (v : Value) : Bool := match v with
  | .long _ => false
  | _ => true
def lf_rf : List Value → List Value → Prop
  | [], [] => True
  | u :: us, v :: vs => (u = v ∨ (u = mj_U ∧ lf_nl v = true)) ∧ lf_rf us vs
  | _, _ => False
theorem lf_rf_len : ∀ {ls ls' : List Value}, lf_rf ls ls' → ls'.length = ls.length
  | [], [], _ => rfl
  | u :: us, v :: vs, h => by rw [List.length_cons, List.length_cons, lf_rf_len h.2]
  | [], v :: vs, h => h.elim
  | u :: us, [], h => h.elim
theorem lf_rf_get : ∀ {ls ls' : List Value} {n : Nat} {x : Value}, lf_rf ls ls' → ls[n]? = some x → x ≠ mj_U → ls'[n]? = some x
  | [], [], n, x, _, h, _ => by simp at h
  | u :: us, v :: vs, 0, x, hr, h, hx => by
    cases h
    rcases hr.1 with e | ⟨e, -⟩
    · rw [e]; rfl
    · exact absurd e hx
  | u :: us, v :: vs, n + 1, x, hr, h, hx => lf_rf_get (ls := us) (ls' := vs) hr.2 h hx
  | [], v :: vs, _, _, h, _, _ => h.elim
  | u :: us, [], _, _, h, _, _ => h.elim
theorem lf_rf_long : ∀ {ls ls' : List Value} {n : Nat} {x : Int64}, lf_rf ls ls' → ls'[n]? = some (.long x) → ls[n]? = some (.long x)
  | [], [], n, x, _, h => by simp at h
  | u :: us, v :: vs, 0, x, hr, h => by
    cases h
    rcases hr.1 with e | ⟨-, e⟩
    · rw [e]; rfl
    · cases e
  | u :: us, v :: vs, n + 1, x, hr, h => lf_rf_long (ls := us) (ls' := vs) hr.2 h
  | [], v :: vs, _, _, h, _ => h.elim
  | u :: us, [], _, _, h, _ => h.elim
theorem lf_rf_lg {ls ls' : List Value} {n : Nat} (hr : lf_rf ls ls') (h : mj_lg ls n = false) : mj_lg ls' n = false := by
  cases n with
  | zero => rfl
  | succ k =>
    cases hk : mj_lg ls' (k + 1) with
    | false => rfl
    | true =>
      have h1 : ∃ x, ls'[k]? = some (.long x) := by
        have hk' : (match ls'[k]? with
          | some (.long _) => true
          | _ => false) = true := hk
        split at hk'
        · rename_i x e; exact ⟨x, e⟩
        · cases hk'
      obtain ⟨x, hx⟩ := h1
      have h2 := lf_rf_long hr hx
      have h' : (match ls[k]? with
        | some (.long _) => true
        | _ => false) = false := h
      rw [h2] at h'
      cases h'
theorem lf_rf_set : ∀ {ls ls' : List Value} (n : Nat) (x : Value), lf_rf ls ls' → lf_rf (ls.set n x) (ls'.set n x)
  | [], [], n, x, _ => trivial
  | u :: us, v :: vs, 0, x, hr => ⟨Or.inl rfl, hr.2⟩
  | u :: us, v :: vs, n + 1, x, hr => ⟨hr.1, lf_rf_set (ls := us) (ls' := vs) n x hr.2⟩
  | [], v :: vs, _, _, h => h.elim
  | u :: us, [], _, _, h => h.elim
section LFW
variable {sc : Nat × (Nat → Int32)} {tx : Nat → List Int32} {na : Nat → Nat × Nat} {R : mj_R} {hd : List (Nat × Nat × Nat × Nat)} {J J' : mj_J} {Q : mj_Q} {bl : Nat → Option (mj_B × Nat)}
theorem mj_af_weak (hJ : ∀ t ls ls' st h cl rc rs, lf_rf ls ls' → J t ls st h cl rc rs → J' t ls' st h cl rc rs) {pc : Nat} {ls ls' rest : List Value} (hr : lf_rf ls ls') {K K' : List Value → mj_H → Bool → Nat → Nat → Prop} (hK : ∀ st h cl rc rs, K st h cl rc rs → K' st h cl rc rs) {o : mj_O} {h : mj_H} {cl : Bool} {rc rs : Nat} : mj_af hd J Q pc ls rest K o h cl rc rs → mj_af hd J' Q pc ls' rest K' o h cl rc rs := by
  unfold mj_af
  cases o with
  | inl v =>
    cases v with
    | none => exact hK _ _ _ _ _
    | some v => exact hK _ _ _ _ _
  | inr x =>
    dsimp only
    cases mj_find hd pc x with
    | none => exact id
    | some t => exact hJ _ _ _ _ _ _ _ _ hr
set_option maxHeartbeats 4000000 in
theorem mj_b_weak (hJ : ∀ t ls ls' st h cl rc rs, lf_rf ls ls' → J t ls st h cl rc rs → J' t ls' st h cl rc rs) :
    ∀ (is : mj_B) (ft : Nat) (ls ls' st : List Value) (h : mj_H) (cl : Bool) (rc rs : Nat), lf_rf ls ls' → mj_b sc tx na R hd J Q is ft ls st h cl rc rs → mj_b sc tx na R hd J' Q is ft ls' st h cl rc rs := by
  intro is
  induction is with
  | nil => intro ft ls ls' st h cl rc rs hr H; exact hJ _ _ _ _ _ _ _ _ hr H
  | cons e is ih =>
    obtain ⟨pc, i⟩ := e
    intro ft ls ls' st h cl rc rs hr
    have hlen := lf_rf_len hr
    cases i
    case iload n => exact fun ⟨x, h1, h2⟩ => ⟨x, lf_rf_get hr h1 (fun e => by cases e), ih _ _ _ _ _ _ _ _ hr h2⟩
    case lload n => exact fun ⟨x, h1, h2⟩ => ⟨x, lf_rf_get hr h1 (fun e => by cases e), ih _ _ _ _ _ _ _ _ hr h2⟩
    case aload n => exact fun ⟨x, h1, h2⟩ => ⟨x, lf_rf_get hr h1 (fun e => by cases e), ih _ _ _ _ _ _ _ _ hr h2⟩
    case istore n => exact fun ⟨x, st', h1, h2, h3, h4⟩ => ⟨x, st', h1, hlen.symm ▸ h2, lf_rf_lg hr h3, ih _ _ _ _ _ _ _ _ (lf_rf_set n _ hr) h4⟩
    case astore n => exact fun ⟨x, st', h1, h0, h2, h3, h4⟩ => ⟨x, st', h1, h0, hlen.symm ▸ h2, lf_rf_lg hr h3, ih _ _ _ _ _ _ _ _ (lf_rf_set n _ hr) h4⟩
    case lstore n => exact fun ⟨x, st', h1, h2, h3, h4⟩ => ⟨x, st', h1, hlen.symm ▸ h2, lf_rf_lg hr h3, ih _ _ _ _ _ _ _ _ (lf_rf_set (n + 1) _ (lf_rf_set n _ hr)) h4⟩
    case iinc n v => exact fun ⟨x, h1, h2, h3⟩ => ⟨x, lf_rf_get hr h1 (fun e => by cases e), lf_rf_lg hr h2, ih _ _ _ _ _ _ _ _ (lf_rf_set n _ hr) h3⟩
    all_goals first
      | exact fun H => H.elim
      | exact ih _ _ _ _ _ _ _ _ hr
      | exact hJ _ _ _ _ _ _ _ _ hr
      | (refine Exists.imp fun _ => Exists.imp fun _ => And.imp_right ?_; exact And.imp (fun k c => hJ _ _ _ _ _ _ _ _ hr (k c)) (fun k c => ih _ _ _ _ _ _ _ _ hr (k c)))
      | (refine Exists.imp fun _ => Exists.imp fun _ => Exists.imp fun _ => And.imp_right ?_; exact And.imp (fun k c => hJ _ _ _ _ _ _ _ _ hr (k c)) (fun k c => ih _ _ _ _ _ _ _ _ hr (k c)))
      | (refine Exists.imp fun _ => Exists.imp fun _ => And.imp_right (And.imp (fun k c => hJ _ _ _ _ _ _ _ _ hr (k c)) (fun k c => ?_)); exact (k c).imp fun _ => And.imp_right (hJ _ _ _ _ _ _ _ _ hr))
      | (repeat first
          | refine Exists.imp fun _ => ?_
          | exact ih _ _ _ _ _ _ _ _ hr
          | exact hJ _ _ _ _ _ _ _ _ hr
          | exact id
          | exact And.imp_right (mj_af_weak hJ hr (fun st h cl rc rs => ih _ _ _ _ _ _ _ _ hr))
          | refine And.imp_right ?_)
theorem mj_w_weak {pc : Nat} {ls ls' st : List Value} {h : mj_H} {cl : Bool} {rc rs : Nat} (hr : lf_rf ls ls') (H : mj_w sc tx na R hd bl Q pc ls st h cl rc rs) : mj_w sc tx na R hd bl Q pc ls' st h cl rc rs := by
  have K := H (fun pc ls st h cl rc rs => ∀ ls', lf_rf ls ls' → mj_w sc tx na R hd bl Q pc ls' st h cl rc rs) (fun pc ls st h cl rc rs b hb HB ls' hr => mj_w_step hb (mj_b_weak (fun t ls ls' st h cl rc rs hr k => k ls' hr) _ _ _ _ _ _ _ _ _ hr HB))
  exact K ls' hr
end LFW
theorem lf_rl {u : Value} {us vs : List Value} (h : lf_rf us vs) : lf_rf (u :: us) (u :: vs) := ⟨Or.inl rfl, h⟩
theorem lf_ri {x : Int32} {us vs : List Value} (h : lf_rf us vs) : lf_rf (mj_U :: us) (.int x :: vs) := ⟨Or.inr ⟨rfl, rfl⟩, h⟩
theorem lf_rr {x : Nat} {us vs : List Value} (h : lf_rf us vs) : lf_rf (mj_U :: us) (.ref x :: vs) := ⟨Or.inr ⟨rfl, rfl⟩, h⟩
theorem lf_r0 : lf_rf [] [] := trivial
