/-! ===== methods that throw: how they end ===== -/
def lf_vi (x : Int32) : Option Value := some (.int x)
def lf_vb (x : Bool) : Option Value := some (.int (lf_i x))
def lf_vu (_ : Unit) : Option Value := none
def lf_tv {R : Type} (V : R → Option Value) (r : Nat ⊕ R) : mj_O := match r with
  | .inl x => .inr x
  | .inr v => .inl (V v)
def lf_dc {R : Type} (r : Nat ⊕ R) : Nat := match r with
  | .inl _ => 1
  | .inr _ => 0
def lf_ds {R : Type} (r : Nat ⊕ R) : Nat := match r with
  | .inl _ => 6
  | .inr _ => 0
def lf_cz {R : Type} (r : Nat ⊕ R) (cl : Bool) : Bool := match r with
  | .inl _ => false
  | .inr _ => cl
def lf_th {R : Type} (sc : Nat × (Nat → Int32)) (D j : Nat) (as : List Value) (s : lf_S) (V : R → Option Value) (p : (Nat ⊕ R) × lf_S) : Prop := ∀ d, D ≤ d → ∀ cl, mj_rn sc d j as (lf_hp s) cl (lf_dc p.1) (lf_ds p.1) (lf_tv V p.1) (lf_hp p.2) (lf_cz p.1 cl)
def lf_QT {R : Type} (V : R → Option Value) (p : (Nat ⊕ R) × lf_S) (cl : Bool) : mj_Q := fun o1 h1 cl1 => o1 = lf_tv V p.1 ∧ h1 = lf_hp p.2 ∧ cl1 = lf_cz p.1 cl
def lf_tb {R T : Type} (f : Option ((Nat ⊕ R) × lf_S)) (A : R → lf_S → Option ((Nat ⊕ T) × lf_S)) : Option ((Nat ⊕ T) × lf_S) := f.bind (fun p => match p.1 with
  | .inl x => some (.inl x, p.2)
  | .inr v => A v p.2)
theorem lf_inT {R : Type} {sc : Nat × (Nat → Int32)} {D j : Nat} {as ls : List Value} {s : lf_S} {V : R → Option Value} {p : (Nat ⊕ R) × lf_S} (h1 : (Nat.ble as.length (mj_nl j) && (as.all mj_pl && as.all (fun v => v.category == 1))) = true) (hz : mj_zok j (lf_tv V p.1)) (hls : as ++ List.replicate (mj_nl j - as.length) mj_U = ls)
    (hw : ∀ d, D ≤ d → ∀ cl, lf_wp sc d j (lf_QT V p cl) 0 ls [] (lf_hp s) cl (lf_dc p.1) (lf_ds p.1)) : lf_th sc (D + 1) j as s V p := by
  intro d hd cl
  rw [Bool.and_eq_true, Bool.and_eq_true] at h1
  obtain ⟨a1, a2, a3⟩ := h1
  cases d with
  | zero => exact absurd hd (by omega)
  | succ d =>
    subst hls
    exact ⟨Nat.le_of_ble_eq_true a1, a2, fun v hv => by simpa using List.all_eq_true.mp a3 v hv, hz, hw d (by omega) cl⟩
theorem lf_zti {R : Type} {j : Nat} {V : R → Option Value} {r : Nat ⊕ R} (h : mj_zb j = 0) : mj_zok j (lf_tv V r) := fun q => by rw [h] at q; cases q
theorem lf_ztb {j : Nat} {r : Nat ⊕ Bool} : mj_zok j (lf_tv lf_vb r) := fun _ x e => by
  cases r with
  | inl a => cases e
  | inr b =>
    cases e
    exact lf_i_01 b
section
variable {R T : Type} {sc : Nat × (Nat → Int32)} {d : Nat} {hd : List (Nat × Nat × Nat × Nat)} {J : mj_J} {pc ft : Nat} {is : mj_B} {ls st : List Value} {s : lf_S} {cl cl0 : Bool} {V : T → Option Value}
theorem lf_throw {x : Nat} (hc : Nat.ble ((st.map fun v => v.category).sum) 8 = true) : mj_b sc mj_tx mj_na (mj_rn sc d) hd J (lf_QT V (Sum.inl x, s) cl0) ((pc, .instanceof x) :: is) ft ls st (lf_hp s) cl (lf_dc (Sum.inl x : Nat ⊕ T)) (lf_ds (Sum.inl x : Nat ⊕ T)) := ⟨Nat.le_of_ble_eq_true hc, Nat.le_refl _, Nat.le_refl _, rfl, rfl, rfl⟩
theorem lf_tb_cases {f : Option ((Nat ⊕ R) × lf_S)} {A : R → lf_S → Option ((Nat ⊕ T) × lf_S)} {r : (Nat ⊕ T) × lf_S} (h : lf_tb f A = some r) {G : Prop} (k1 : ∀ x s2, f = some (Sum.inl x, s2) → r = (Sum.inl x, s2) → G) (k2 : ∀ v s2, f = some (Sum.inr v, s2) → A v s2 = some r → G) : G := by
  obtain ⟨⟨q, s2⟩, h1, h2⟩ := Option.bind_eq_some_iff.mp h
  cases q with
  | inl x => exact k1 x s2 h1 (Option.some.inj h2).symm
  | inr v => exact k2 v s2 h1 h2

theorem lf_callSTi {D j : Nat} {as rest : List Value} {f : Option ((Nat ⊕ Int32) × lf_S)} {A : Int32 → lf_S → Option ((Nat ⊕ T) × lf_S)} {r : (Nat ⊕ T) × lf_S} (h : lf_tb f A = some r) (hst : st = as.reverse ++ rest) (hn : Nat.beq as.length (mj_na j).2 = true) (hd0 : D ≤ d) (hp : as.all mj_pl = true) (hc : Nat.ble ((rest.map fun v => v.category).sum) 8 = true) (hh : hd = []) (hf : ∀ p, f = some p → lf_th sc D j as s lf_vi p) (kk : ∀ v s2, A v s2 = some r → mj_b sc mj_tx mj_na (mj_rn sc d) hd J (lf_QT V r cl) (is) ft ls (.int v :: rest) (lf_hp s2) cl (lf_dc r.1) (lf_ds r.1)) : mj_b sc mj_tx mj_na (mj_rn sc d) hd J (lf_QT V r cl) ((pc, .invokestatic j) :: is) ft ls st (lf_hp s) cl (lf_dc r.1) (lf_ds r.1) := by
  refine lf_tb_cases h (fun x s2 h1 h2 => ?_) (fun v s2 h1 h2 => ?_)
  · subst h2; subst hh
    exact ⟨as, rest, .inr x, lf_hp s2, false, 1, 6, hst, Nat.eq_of_beq_eq_true hn, hp, Nat.le_of_ble_eq_true hc, Nat.le_refl _, Nat.le_refl _, hf _ h1 d hd0 cl, ⟨rfl, rfl, rfl⟩⟩
  · exact ⟨as, rest, .inl (lf_vi v), lf_hp s2, cl, 0, 0, hst, Nat.eq_of_beq_eq_true hn, hp, Nat.le_of_ble_eq_true hc, Nat.zero_le _, Nat.zero_le _, hf _ h1 d hd0 cl, kk v s2 h2⟩
theorem lf_callVTi {a : Nat} {D j : Nat} {as rest : List Value} {f : Option ((Nat ⊕ Int32) × lf_S)} {A : Int32 → lf_S → Option ((Nat ⊕ T) × lf_S)} {r : (Nat ⊕ T) × lf_S} (h : lf_tb f A = some r) (hst : st = as.reverse ++ .ref a :: rest) (hn : Nat.beq as.length (mj_na j).2 = true) {ci n : Nat} {rl : List (Option Nat)} (hs : lf_sh[a]? = some (ci + 4, n, rl)) (hci : Nat.beq (mj_na j).1 ci = true) (hd0 : D ≤ d) (hp : as.all mj_pl = true) (hc : Nat.ble ((rest.map fun v => v.category).sum) 8 = true) (hh : hd = []) (hf : ∀ p, f = some p → lf_th sc D j (.ref a :: as) s lf_vi p) (kk : ∀ v s2, A v s2 = some r → mj_b sc mj_tx mj_na (mj_rn sc d) hd J (lf_QT V r cl) (is) ft ls (.int v :: rest) (lf_hp s2) cl (lf_dc r.1) (lf_ds r.1)) : mj_b sc mj_tx mj_na (mj_rn sc d) hd J (lf_QT V r cl) ((pc, .invokevirtual j) :: is) ft ls st (lf_hp s) cl (lf_dc r.1) (lf_ds r.1) := by
  refine lf_tb_cases h (fun x s2 h1 h2 => ?_) (fun v s2 h1 h2 => ?_)
  · subst h2; subst hh
    have e2 : (mj_na j).1 = ci := Nat.eq_of_beq_eq_true hci
    exact ⟨a, as, rest, lf_fs rl (s.1 a), .inr x, lf_hp s2, false, 1, 6, hst, Nat.eq_of_beq_eq_true hn, hp, by rw [e2]; exact lf_get hs, Nat.le_of_ble_eq_true hc, Nat.le_refl _, Nat.le_refl _, hf _ h1 d hd0 cl, ⟨rfl, rfl, rfl⟩⟩
  · have e2 : (mj_na j).1 = ci := Nat.eq_of_beq_eq_true hci
    exact ⟨a, as, rest, lf_fs rl (s.1 a), .inl (lf_vi v), lf_hp s2, cl, 0, 0, hst, Nat.eq_of_beq_eq_true hn, hp, by rw [e2]; exact lf_get hs, Nat.le_of_ble_eq_true hc, Nat.zero_le _, Nat.zero_le _, hf _ h1 d hd0 cl, kk v s2 h2⟩
theorem lf_callSTb {D j : Nat} {as rest : List Value} {f : Option ((Nat ⊕ Bool) × lf_S)} {A : Bool → lf_S → Option ((Nat ⊕ T) × lf_S)} {r : (Nat ⊕ T) × lf_S} (h : lf_tb f A = some r) (hst : st = as.reverse ++ rest) (hn : Nat.beq as.length (mj_na j).2 = true) (hd0 : D ≤ d) (hp : as.all mj_pl = true) (hc : Nat.ble ((rest.map fun v => v.category).sum) 8 = true) (hh : hd = []) (hf : ∀ p, f = some p → lf_th sc D j as s lf_vb p) (kk : ∀ v s2, A v s2 = some r → mj_b sc mj_tx mj_na (mj_rn sc d) hd J (lf_QT V r cl) (is) ft ls (.int (lf_i v) :: rest) (lf_hp s2) cl (lf_dc r.1) (lf_ds r.1)) : mj_b sc mj_tx mj_na (mj_rn sc d) hd J (lf_QT V r cl) ((pc, .invokestatic j) :: is) ft ls st (lf_hp s) cl (lf_dc r.1) (lf_ds r.1) := by
  refine lf_tb_cases h (fun x s2 h1 h2 => ?_) (fun v s2 h1 h2 => ?_)
  · subst h2; subst hh
    exact ⟨as, rest, .inr x, lf_hp s2, false, 1, 6, hst, Nat.eq_of_beq_eq_true hn, hp, Nat.le_of_ble_eq_true hc, Nat.le_refl _, Nat.le_refl _, hf _ h1 d hd0 cl, ⟨rfl, rfl, rfl⟩⟩
  · exact ⟨as, rest, .inl (lf_vb v), lf_hp s2, cl, 0, 0, hst, Nat.eq_of_beq_eq_true hn, hp, Nat.le_of_ble_eq_true hc, Nat.zero_le _, Nat.zero_le _, hf _ h1 d hd0 cl, kk v s2 h2⟩
theorem lf_callVTb {a : Nat} {D j : Nat} {as rest : List Value} {f : Option ((Nat ⊕ Bool) × lf_S)} {A : Bool → lf_S → Option ((Nat ⊕ T) × lf_S)} {r : (Nat ⊕ T) × lf_S} (h : lf_tb f A = some r) (hst : st = as.reverse ++ .ref a :: rest) (hn : Nat.beq as.length (mj_na j).2 = true) {ci n : Nat} {rl : List (Option Nat)} (hs : lf_sh[a]? = some (ci + 4, n, rl)) (hci : Nat.beq (mj_na j).1 ci = true) (hd0 : D ≤ d) (hp : as.all mj_pl = true) (hc : Nat.ble ((rest.map fun v => v.category).sum) 8 = true) (hh : hd = []) (hf : ∀ p, f = some p → lf_th sc D j (.ref a :: as) s lf_vb p) (kk : ∀ v s2, A v s2 = some r → mj_b sc mj_tx mj_na (mj_rn sc d) hd J (lf_QT V r cl) (is) ft ls (.int (lf_i v) :: rest) (lf_hp s2) cl (lf_dc r.1) (lf_ds r.1)) : mj_b sc mj_tx mj_na (mj_rn sc d) hd J (lf_QT V r cl) ((pc, .invokevirtual j) :: is) ft ls st (lf_hp s) cl (lf_dc r.1) (lf_ds r.1) := by
  refine lf_tb_cases h (fun x s2 h1 h2 => ?_) (fun v s2 h1 h2 => ?_)
  · subst h2; subst hh
    have e2 : (mj_na j).1 = ci := Nat.eq_of_beq_eq_true hci
    exact ⟨a, as, rest, lf_fs rl (s.1 a), .inr x, lf_hp s2, false, 1, 6, hst, Nat.eq_of_beq_eq_true hn, hp, by rw [e2]; exact lf_get hs, Nat.le_of_ble_eq_true hc, Nat.le_refl _, Nat.le_refl _, hf _ h1 d hd0 cl, ⟨rfl, rfl, rfl⟩⟩
  · have e2 : (mj_na j).1 = ci := Nat.eq_of_beq_eq_true hci
    exact ⟨a, as, rest, lf_fs rl (s.1 a), .inl (lf_vb v), lf_hp s2, cl, 0, 0, hst, Nat.eq_of_beq_eq_true hn, hp, by rw [e2]; exact lf_get hs, Nat.le_of_ble_eq_true hc, Nat.zero_le _, Nat.zero_le _, hf _ h1 d hd0 cl, kk v s2 h2⟩
theorem lf_callSTu {D j : Nat} {as rest : List Value} {f : Option ((Nat ⊕ Unit) × lf_S)} {A : Unit → lf_S → Option ((Nat ⊕ T) × lf_S)} {r : (Nat ⊕ T) × lf_S} (h : lf_tb f A = some r) (hst : st = as.reverse ++ rest) (hn : Nat.beq as.length (mj_na j).2 = true) (hd0 : D ≤ d) (hp : as.all mj_pl = true) (hc : Nat.ble ((rest.map fun v => v.category).sum) 8 = true) (hh : hd = []) (hf : ∀ p, f = some p → lf_th sc D j as s lf_vu p) (kk : ∀ v s2, A v s2 = some r → mj_b sc mj_tx mj_na (mj_rn sc d) hd J (lf_QT V r cl) (is) ft ls (rest) (lf_hp s2) cl (lf_dc r.1) (lf_ds r.1)) : mj_b sc mj_tx mj_na (mj_rn sc d) hd J (lf_QT V r cl) ((pc, .invokestatic j) :: is) ft ls st (lf_hp s) cl (lf_dc r.1) (lf_ds r.1) := by
  refine lf_tb_cases h (fun x s2 h1 h2 => ?_) (fun v s2 h1 h2 => ?_)
  · subst h2; subst hh
    exact ⟨as, rest, .inr x, lf_hp s2, false, 1, 6, hst, Nat.eq_of_beq_eq_true hn, hp, Nat.le_of_ble_eq_true hc, Nat.le_refl _, Nat.le_refl _, hf _ h1 d hd0 cl, ⟨rfl, rfl, rfl⟩⟩
  · exact ⟨as, rest, .inl (lf_vu v), lf_hp s2, cl, 0, 0, hst, Nat.eq_of_beq_eq_true hn, hp, Nat.le_of_ble_eq_true hc, Nat.zero_le _, Nat.zero_le _, hf _ h1 d hd0 cl, kk v s2 h2⟩
theorem lf_callVTu {a : Nat} {D j : Nat} {as rest : List Value} {f : Option ((Nat ⊕ Unit) × lf_S)} {A : Unit → lf_S → Option ((Nat ⊕ T) × lf_S)} {r : (Nat ⊕ T) × lf_S} (h : lf_tb f A = some r) (hst : st = as.reverse ++ .ref a :: rest) (hn : Nat.beq as.length (mj_na j).2 = true) {ci n : Nat} {rl : List (Option Nat)} (hs : lf_sh[a]? = some (ci + 4, n, rl)) (hci : Nat.beq (mj_na j).1 ci = true) (hd0 : D ≤ d) (hp : as.all mj_pl = true) (hc : Nat.ble ((rest.map fun v => v.category).sum) 8 = true) (hh : hd = []) (hf : ∀ p, f = some p → lf_th sc D j (.ref a :: as) s lf_vu p) (kk : ∀ v s2, A v s2 = some r → mj_b sc mj_tx mj_na (mj_rn sc d) hd J (lf_QT V r cl) (is) ft ls (rest) (lf_hp s2) cl (lf_dc r.1) (lf_ds r.1)) : mj_b sc mj_tx mj_na (mj_rn sc d) hd J (lf_QT V r cl) ((pc, .invokevirtual j) :: is) ft ls st (lf_hp s) cl (lf_dc r.1) (lf_ds r.1) := by
  refine lf_tb_cases h (fun x s2 h1 h2 => ?_) (fun v s2 h1 h2 => ?_)
  · subst h2; subst hh
    have e2 : (mj_na j).1 = ci := Nat.eq_of_beq_eq_true hci
    exact ⟨a, as, rest, lf_fs rl (s.1 a), .inr x, lf_hp s2, false, 1, 6, hst, Nat.eq_of_beq_eq_true hn, hp, by rw [e2]; exact lf_get hs, Nat.le_of_ble_eq_true hc, Nat.le_refl _, Nat.le_refl _, hf _ h1 d hd0 cl, ⟨rfl, rfl, rfl⟩⟩
  · have e2 : (mj_na j).1 = ci := Nat.eq_of_beq_eq_true hci
    exact ⟨a, as, rest, lf_fs rl (s.1 a), .inl (lf_vu v), lf_hp s2, cl, 0, 0, hst, Nat.eq_of_beq_eq_true hn, hp, by rw [e2]; exact lf_get hs, Nat.le_of_ble_eq_true hc, Nat.zero_le _, Nat.zero_le _, hf _ h1 d hd0 cl, kk v s2 h2⟩
end
/-! ===== the law's own methods: one call with its handlers ===== -/
def lf_wr {R : Type} (f : Option ((Nat ⊕ R) × lf_S)) (H : Nat → Option Int32) (A : R → lf_S → Option (Int32 × lf_S)) : Option (Int32 × lf_S) := f.bind (fun p => match p.1 with
  | .inl x => (H x).map (fun k => (k, p.2))
  | .inr v => A v p.2)
theorem lf_wr_cases {R : Type} {f : Option ((Nat ⊕ R) × lf_S)} {H : Nat → Option Int32} {A : R → lf_S → Option (Int32 × lf_S)} {r : Int32 × lf_S} (h : lf_wr f H A = some r) {G : Prop} (k1 : ∀ x s2 k, f = some (Sum.inl x, s2) → H x = some k → r = (k, s2) → G) (k2 : ∀ v s2, f = some (Sum.inr v, s2) → A v s2 = some r → G) : G := by
  obtain ⟨⟨q, s2⟩, h1, h2⟩ := Option.bind_eq_some_iff.mp h
  cases q with
  | inl x =>
    obtain ⟨k, h3, h4⟩ := Option.map_eq_some_iff.mp h2
    exact k1 x s2 k h1 h3 h4.symm
  | inr v => exact k2 v s2 h1 h2
def lf_ow (sc : Nat × (Nat → Int32)) (D j : Nat) (as : List Value) (s : lf_S) (v : Option Value) (s' : lf_S) : Prop := ∀ d, D ≤ d → ∀ cl, ∃ cl', mj_rn sc d j as (lf_hp s) cl 1 6 (.inl v) (lf_hp s') cl'
theorem lf_inW {sc : Nat × (Nat → Int32)} {D j : Nat} {as ls : List Value} {s s' : lf_S} {v : Option Value} (cl' : Bool → Bool) (h1 : (Nat.ble as.length (mj_nl j) && (as.all mj_pl && as.all (fun v => v.category == 1))) = true) (hz : mj_zok j (.inl v)) (hls : as ++ List.replicate (mj_nl j - as.length) mj_U = ls)
    (hw : ∀ d, D ≤ d → ∀ cl, lf_wp sc d j (lf_Q (.inl v) s' (cl' cl)) 0 ls [] (lf_hp s) cl 1 6) : lf_ow sc (D + 1) j as s v s' := by
  intro d hd cl
  rw [Bool.and_eq_true, Bool.and_eq_true] at h1
  obtain ⟨a1, a2, a3⟩ := h1
  cases d with
  | zero => exact absurd hd (by omega)
  | succ d =>
    subst hls
    exact ⟨cl' cl, Nat.le_of_ble_eq_true a1, a2, fun v hv => by simpa using List.all_eq_true.mp a3 v hv, hz, hw d (by omega) cl⟩
section
variable {R α : Type} {r : α} {sc : Nat × (Nat → Int32)} {d : Nat} {hd : List (Nat × Nat × Nat × Nat)} {J : mj_J} {Q : mj_Q} {pc ft : Nat} {is : mj_B} {ls st : List Value} {s : lf_S} {cl : Bool} {rc rs : Nat} {V : R → Option Value}
theorem lf_callVx {a x t D j : Nat} {as rest : List Value} {s2 : lf_S} (hst : st = as.reverse ++ .ref a :: rest) (hn : Nat.beq as.length (mj_na j).2 = true) {ci n : Nat} {rl : List (Option Nat)} (hs : lf_sh[a]? = some (ci + 4, n, rl)) (hci : Nat.beq (mj_na j).1 ci = true) (hd0 : D ≤ d) (hp : as.all mj_pl = true) (hc : Nat.ble ((rest.map fun v => v.category).sum) 8 = true) (hx : mj_find hd pc x = some t) (th : lf_th sc D j (.ref a :: as) s V (Sum.inl x, s2)) (kk : J t ls [mj_X] (lf_hp s2) false 0 0) : mj_b sc mj_tx mj_na (mj_rn sc d) hd J Q ((pc, .invokevirtual j) :: is) ft ls st (lf_hp s) cl 1 6 := by
  have e2 : (mj_na j).1 = ci := Nat.eq_of_beq_eq_true hci
  refine ⟨a, as, rest, lf_fs rl (s.1 a), .inr x, lf_hp s2, false, 1, 6, hst, Nat.eq_of_beq_eq_true hn, hp, by rw [e2]; exact lf_get hs, Nat.le_of_ble_eq_true hc, Nat.le_refl _, Nat.le_refl _, th d hd0 cl, ?_⟩
  unfold mj_af
  dsimp only
  rw [hx]
  exact kk
theorem lf_astx {n : Nat} {L : List Value} (h1 : Nat.ble (n + 1) ls.length = true) (h2 : mj_lg ls n = false) (h3 : ls.set n mj_X = L) (kk : mj_b sc mj_tx mj_na (mj_rn sc d) hd J Q (is) ft L st (lf_hp s) cl rc rs) : mj_b sc mj_tx mj_na (mj_rn sc d) hd J Q ((pc, .astore n) :: is) ft ls (mj_X :: st) (lf_hp s) cl rc rs := ⟨mj_X, st, rfl, Or.inl rfl, Nat.le_of_ble_eq_true h1, h2, h3.symm ▸ kk⟩
theorem lf_last {x : Int32} {v : Int64} {A : lf_S → Option α} (h : lf_ck x 1 (fun k => lf_lt (lf_wl s k v) A) = some r) (kk : ∀ s, A s = some r → mj_b sc mj_tx mj_na (mj_rn sc d) hd J Q (is) ft ls st (lf_hp s) cl rc rs) : mj_b sc mj_tx mj_na (mj_rn sc d) hd J Q ((pc, .lastore) :: is) ft ls (.long v :: .int x :: .ref 404 :: st) (lf_hp s) cl rc rs := by
  obtain ⟨h1, h2⟩ := lf_ck_some h
  refine ⟨v, x, 404, st, 1, s.2, rfl, lf_get lf_a404, h1, ?_⟩
  have e := lf_setl (s := s) lf_a404 (vp_updL s.2 x.toNatClampNeg v)
  rw [e]
  exact kk _ h2
theorem lf_callSo {D j : Nat} {as rest : List Value} {f : Option (Int32 × lf_S)} {A : Int32 × lf_S → Option α} (h : f.bind A = some r) (hst : st = as.reverse ++ rest) (hn : Nat.beq as.length (mj_na j).2 = true) (hd0 : D ≤ d) (hp : as.all mj_pl = true) (hc : Nat.ble ((rest.map fun v => v.category).sum) 8 = true) (hrc : 1 ≤ rc) (hrs : 6 ≤ rs) (hf : ∀ p, f = some p → lf_ow sc D j as s (some (.int p.1)) p.2) (kk : ∀ p cl', A p = some r → mj_b sc mj_tx mj_na (mj_rn sc d) hd J Q (is) ft ls (.int p.1 :: rest) (lf_hp p.2) cl' (rc - 1) (rs - 6)) : mj_b sc mj_tx mj_na (mj_rn sc d) hd J Q ((pc, .invokestatic j) :: is) ft ls st (lf_hp s) cl rc rs := by
  obtain ⟨p, h1, h2⟩ := Option.bind_eq_some_iff.mp h
  obtain ⟨cl', h3⟩ := hf p h1 d hd0 cl
  exact ⟨as, rest, .inl (some (.int p.1)), lf_hp p.2, cl', 1, 6, hst, Nat.eq_of_beq_eq_true hn, hp, Nat.le_of_ble_eq_true hc, hrc, hrs, h3, kk p cl' h2⟩
theorem lf_scr {i k : Nat} {c : Int32} (hi : i + 6 ≤ sc.1) (hsc : sc.1 ≤ 3072) (hk : k < 6) (hc : c = nI k) (kk : mj_b sc mj_tx mj_na (mj_rn sc d) hd J Q (is) ft ls (.int (sc.2 (i + k)) :: st) (lf_hp s) cl rc rs) : mj_b sc mj_tx mj_na (mj_rn sc d) hd J Q ((pc, .iaload) :: is) ft ls (.int (nI i + c) :: .ref mj_SC :: st) (lf_hp s) cl rc rs := by
  subst hc
  rw [nI_add]
  refine ⟨nI (i + k), mj_SC, st, sc.1, sc.2, rfl, Or.inr ⟨rfl, rfl, rfl⟩, vp_in_nI (by omega) (by omega), ?_⟩
  rw [nI_clamp (by omega)]
  exact kk
theorem lf_callVni {v : Int32} {a D j : Nat} {as rest : List Value} {s2 : lf_S} (hst : st = as.reverse ++ .ref a :: rest) (hn : Nat.beq as.length (mj_na j).2 = true) {ci n : Nat} {rl : List (Option Nat)} (hs : lf_sh[a]? = some (ci + 4, n, rl)) (hci : Nat.beq (mj_na j).1 ci = true) (hd0 : D ≤ d) (hp : as.all mj_pl = true) (hc : Nat.ble ((rest.map fun v => v.category).sum) 8 = true) (th : lf_th sc D j (.ref a :: as) s lf_vi (Sum.inr v, s2)) (kk : mj_b sc mj_tx mj_na (mj_rn sc d) hd J Q (is) ft ls (.int v :: rest) (lf_hp s2) cl rc rs) : mj_b sc mj_tx mj_na (mj_rn sc d) hd J Q ((pc, .invokevirtual j) :: is) ft ls st (lf_hp s) cl rc rs := by
  have e2 : (mj_na j).1 = ci := Nat.eq_of_beq_eq_true hci
  exact ⟨a, as, rest, lf_fs rl (s.1 a), .inl (lf_vi v), lf_hp s2, cl, 0, 0, hst, Nat.eq_of_beq_eq_true hn, hp, by rw [e2]; exact lf_get hs, Nat.le_of_ble_eq_true hc, Nat.zero_le _, Nat.zero_le _, th d hd0 cl, kk⟩
theorem lf_callVnb {v : Bool} {a D j : Nat} {as rest : List Value} {s2 : lf_S} (hst : st = as.reverse ++ .ref a :: rest) (hn : Nat.beq as.length (mj_na j).2 = true) {ci n : Nat} {rl : List (Option Nat)} (hs : lf_sh[a]? = some (ci + 4, n, rl)) (hci : Nat.beq (mj_na j).1 ci = true) (hd0 : D ≤ d) (hp : as.all mj_pl = true) (hc : Nat.ble ((rest.map fun v => v.category).sum) 8 = true) (th : lf_th sc D j (.ref a :: as) s lf_vb (Sum.inr v, s2)) (kk : mj_b sc mj_tx mj_na (mj_rn sc d) hd J Q (is) ft ls (.int (lf_i v) :: rest) (lf_hp s2) cl rc rs) : mj_b sc mj_tx mj_na (mj_rn sc d) hd J Q ((pc, .invokevirtual j) :: is) ft ls st (lf_hp s) cl rc rs := by
  have e2 : (mj_na j).1 = ci := Nat.eq_of_beq_eq_true hci
  exact ⟨a, as, rest, lf_fs rl (s.1 a), .inl (lf_vb v), lf_hp s2, cl, 0, 0, hst, Nat.eq_of_beq_eq_true hn, hp, by rw [e2]; exact lf_get hs, Nat.le_of_ble_eq_true hc, Nat.zero_le _, Nat.zero_le _, th d hd0 cl, kk⟩
theorem lf_callVnu {v : Unit} {a D j : Nat} {as rest : List Value} {s2 : lf_S} (hst : st = as.reverse ++ .ref a :: rest) (hn : Nat.beq as.length (mj_na j).2 = true) {ci n : Nat} {rl : List (Option Nat)} (hs : lf_sh[a]? = some (ci + 4, n, rl)) (hci : Nat.beq (mj_na j).1 ci = true) (hd0 : D ≤ d) (hp : as.all mj_pl = true) (hc : Nat.ble ((rest.map fun v => v.category).sum) 8 = true) (th : lf_th sc D j (.ref a :: as) s lf_vu (Sum.inr v, s2)) (kk : mj_b sc mj_tx mj_na (mj_rn sc d) hd J Q (is) ft ls (rest) (lf_hp s2) cl rc rs) : mj_b sc mj_tx mj_na (mj_rn sc d) hd J Q ((pc, .invokevirtual j) :: is) ft ls st (lf_hp s) cl rc rs := by
  have e2 : (mj_na j).1 = ci := Nat.eq_of_beq_eq_true hci
  exact ⟨a, as, rest, lf_fs rl (s.1 a), .inl (lf_vu v), lf_hp s2, cl, 0, 0, hst, Nat.eq_of_beq_eq_true hn, hp, by rw [e2]; exact lf_get hs, Nat.le_of_ble_eq_true hc, Nat.zero_le _, Nat.zero_le _, th d hd0 cl, kk⟩
end
