/-! ===== the small machine's state and the machine's ===== -/
-- where the world begins; where a reference lies; the classes' numbers and slots; the array classes
abbrev mj_E : Type := Nat × (Nat → Nat) × va_G × (Nat → ClassId)
def mj_rl (ad : Nat → Nat) (v : Value) : Value := match v with
  | .ref k => .ref (ad k)
  | v => v
def mj_rx (ad : Nat → Nat) (x : vp_A) : vp_A := match x with
  | (n, .inr (.inr (.inr (.inr f)))) => (n, .inr (.inr (.inr (.inr (fun j => (f j).map ad)))))
  | x => x
def mj_rc (ad : Nat → Nat) (dA : Nat → ClassId) (c : mj_C) : va_E := match c with
  | .inl (t, x) => .inl (dA t, mj_rx ad x)
  | .inr (ci, fs) => .inr (ci, fs.map (mj_rl ad))
def mj_ws (E : mj_E) (h : mj_H) : va_W := h.mapIdx (fun i c => (E.1 + i, mj_rc E.2.1 E.2.2.2 c))
theorem mj_ws_get (E : mj_E) (h : mj_H) (k : Nat) : (mj_ws E h)[k]? = (h[k]?).map (fun c => (E.1 + k, mj_rc E.2.1 E.2.2.2 c)) := by
  unfold mj_ws
  rw [List.getElem?_mapIdx]
theorem mj_ws_at {E : mj_E} {h : mj_H} {k : Nat} {c : mj_C} (hk : h[k]? = some c) : (mj_ws E h)[k]? = some (E.1 + k, mj_rc E.2.1 E.2.2.2 c) := by rw [mj_ws_get, hk]; rfl
theorem mj_ws_len (E : mj_E) (h : mj_H) : (mj_ws E h).length = h.length := by unfold mj_ws; rw [List.length_mapIdx]
theorem mj_ws_set (E : mj_E) (h : mj_H) (k : Nat) (c : mj_C) : (mj_ws E h).set k (E.1 + k, mj_rc E.2.1 E.2.2.2 c) = mj_ws E (h.set k c) := by
  apply List.ext_getElem?
  intro j
  rw [List.getElem?_set, mj_ws_get, mj_ws_get, List.getElem?_set, mj_ws_len]
  by_cases e : k = j
  · subst e
    rw [if_pos rfl, if_pos rfl]
    by_cases g : k < h.length
    · rw [if_pos g, if_pos g]; rfl
    · rw [if_neg g, if_neg g]; rfl
  · rw [if_neg e, if_neg e]
theorem mj_ws_app (E : mj_E) (h : mj_H) (c : mj_C) : mj_ws E h ++ [(E.1 + h.length, mj_rc E.2.1 E.2.2.2 c)] = mj_ws E (h ++ [c]) := by
  apply List.ext_getElem?
  intro j
  rw [mj_ws_get, List.getElem?_append, List.getElem?_append, mj_ws_len, mj_ws_get]
  by_cases g : j < h.length
  · rw [if_pos g, if_pos g]
  · rw [if_neg g, if_neg g]
    by_cases e : j = h.length
    · subst e
      simp
    · have : j - h.length ≠ 0 := by omega
      rw [List.getElem?_singleton, List.getElem?_singleton, if_neg this, if_neg this]; rfl
theorem mj_ws_D (E : mj_E) (h : mj_H) : va_D (fun q => E.1 ≤ q) (mj_ws E h) := by
  refine ⟨fun i j p q hi hj e => ?_, fun k q hk => ?_⟩
  · rw [mj_ws_get] at hi hj
    cases hhi : h[i]? with
    | none => rw [hhi] at hi; cases hi
    | some c =>
      cases hhj : h[j]? with
      | none => rw [hhj] at hj; cases hj
      | some d =>
        rw [hhi] at hi; rw [hhj] at hj
        cases hi; cases hj
        dsimp only at e
        omega
  · rw [mj_ws_get] at hk
    cases hhk : h[k]? with
    | none => rw [hhk] at hk; cases hk
    | some c => rw [hhk] at hk; cases hk; exact Nat.le_add_right _ _
/-- a value of the stack -/
def mj_V (ad : Nat → Nat) (v w : Value) : Prop := (v = mj_X ∧ ∃ q, w = .ref q) ∨ (mj_pl v = true ∧ w = mj_rl ad v)
theorem mj_V_int {ad : Nat → Nat} {x : Int32} {w : Value} (h : mj_V ad (.int x) w) : w = .int x := by
  rcases h with ⟨h, -⟩ | ⟨-, h⟩
  · cases h
  · exact h
theorem mj_V_long {ad : Nat → Nat} {x : Int64} {w : Value} (h : mj_V ad (.long x) w) : w = .long x := by
  rcases h with ⟨h, -⟩ | ⟨-, h⟩
  · cases h
  · exact h
theorem mj_V_ref {ad : Nat → Nat} {x : Nat} {w : Value} (h : mj_V ad (.ref x) w) : w = .ref (ad x) := by
  rcases h with ⟨h, -⟩ | ⟨-, h⟩
  · cases h
  · exact h
theorem mj_V_pl {ad : Nat → Nat} {v w : Value} (hv : mj_pl v = true) (h : mj_V ad v w) : w = mj_rl ad v := by
  rcases h with ⟨rfl, -⟩ | ⟨-, h⟩
  · cases hv
  · exact h
theorem mj_V_cat {ad : Nat → Nat} {v w : Value} (h : mj_V ad v w) : w.category = v.category := by
  rcases h with ⟨rfl, q, rfl⟩ | ⟨h, rfl⟩
  · rfl
  · cases v <;> rfl
theorem mj_V_of {ad : Nat → Nat} {v : Value} (hv : mj_pl v = true) : mj_V ad v (mj_rl ad v) := Or.inr ⟨hv, rfl⟩
def mj_St (ad : Nat → Nat) : List Value → List Value → Prop
  | [], [] => True
  | v :: st, w :: st' => mj_V ad v w ∧ mj_St ad st st'
  | _, _ => False
theorem mj_St_cons {ad : Nat → Nat} {v : Value} {st st' : List Value} (h : mj_St ad (v :: st) st') : ∃ w t, st' = w :: t ∧ mj_V ad v w ∧ mj_St ad st t := by
  cases st' with
  | nil => exact h.elim
  | cons w t => exact ⟨w, t, rfl, h.1, h.2⟩
theorem mj_St_nil {ad : Nat → Nat} {st' : List Value} (h : mj_St ad [] st') : st' = [] := by
  cases st' with
  | nil => rfl
  | cons w t => exact h.elim
theorem mj_St_app {ad : Nat → Nat} : ∀ {xs ys zs : List Value}, mj_St ad (xs ++ ys) zs → ∃ z1 z2, zs = z1 ++ z2 ∧ mj_St ad xs z1 ∧ mj_St ad ys z2
  | [], ys, zs, h => ⟨[], zs, rfl, trivial, h⟩
  | x :: xs, ys, zs, h => by
    obtain ⟨w, t, rfl, h1, h2⟩ := mj_St_cons h
    obtain ⟨z1, z2, rfl, g1, g2⟩ := mj_St_app h2
    exact ⟨w :: z1, z2, rfl, ⟨h1, g1⟩, g2⟩
theorem mj_St_map {ad : Nat → Nat} : ∀ {xs zs : List Value}, (∀ v ∈ xs, mj_pl v = true) → mj_St ad xs zs → zs = xs.map (mj_rl ad)
  | [], zs, _, h => mj_St_nil h
  | x :: xs, zs, hp, h => by
    obtain ⟨w, t, rfl, h1, h2⟩ := mj_St_cons h
    rw [mj_V_pl (hp x List.mem_cons_self) h1, mj_St_map (fun v hv => hp v (List.mem_cons_of_mem _ hv)) h2]
    rfl
theorem mj_St_cat {ad : Nat → Nat} : ∀ {xs zs : List Value}, mj_St ad xs zs → (zs.map fun v => v.category).sum = (xs.map fun v => v.category).sum
  | [], zs, h => by rw [mj_St_nil h]
  | x :: xs, zs, h => by
    obtain ⟨w, t, rfl, h1, h2⟩ := mj_St_cons h
    simp only [List.map_cons, List.sum_cons]
    rw [mj_V_cat h1, mj_St_cat h2]
/-- the locals -/
def mj_L (ad : Nat → Nat) (n : Nat) (ls : List Value) (ls' : Array Slot) : Prop := ls'.size = n ∧ lv_wf ls' ∧ ls.length = n ∧ ∀ (i : Nat) (v : Value), ls[i]? = some v → v ≠ mj_U → ∃ w : Value, mj_V ad v w ∧ ls'[i]? = some (Slot.val w)
theorem mj_L_int {ad : Nat → Nat} {n : Nat} {ls : List Value} {ls' : Array Slot} (h : mj_L ad n ls ls') {i : Nat} {x : Int32} (hi : ls[i]? = some (.int x)) : ls'[i]? = some (Slot.val (.int x)) := by
  obtain ⟨w, h1, h2⟩ := h.2.2.2 i _ hi (fun e => by cases e)
  rw [mj_V_int h1] at h2; exact h2
theorem mj_L_long {ad : Nat → Nat} {n : Nat} {ls : List Value} {ls' : Array Slot} (h : mj_L ad n ls ls') {i : Nat} {x : Int64} (hi : ls[i]? = some (.long x)) : ls'[i]? = some (Slot.val (.long x)) := by
  obtain ⟨w, h1, h2⟩ := h.2.2.2 i _ hi (fun e => by cases e)
  rw [mj_V_long h1] at h2; exact h2
theorem mj_L_ref {ad : Nat → Nat} {n : Nat} {ls : List Value} {ls' : Array Slot} (h : mj_L ad n ls ls') {i : Nat} {x : Nat} (hi : ls[i]? = some (.ref x)) : ls'[i]? = some (Slot.val (.ref (ad x))) := by
  obtain ⟨w, h1, h2⟩ := h.2.2.2 i _ hi (fun e => by cases e)
  rw [mj_V_ref h1] at h2; exact h2
/-- all that the machine's locals hold -/
def mj_al (ls' : Array Slot) : List (Nat × Value) := (List.range ls'.size).filterMap (fun i => match ls'[i]? with
  | some (Slot.val w) => some (i, w)
  | _ => none)
theorem mj_al_mem {ls' : Array Slot} {i : Nat} {w : Value} (h : ls'[i]? = some (Slot.val w)) : (i, w) ∈ mj_al ls' := by
  refine List.mem_filterMap.mpr ⟨i, List.mem_range.mpr (Array.getElem?_eq_some_iff.mp h).1, ?_⟩
  simp only [h]
theorem mj_al_at {ls' : Array Slot} {q : Nat × Value} (h : q ∈ mj_al ls') : ls'[q.1]? = some (.val q.2) := by
  obtain ⟨i, -, hi⟩ := List.mem_filterMap.mp h
  split at hi
  · rename_i w e
    cases hi
    exact e
  · cases hi
theorem mj_al_has {n : Nat} {ls' : Array Slot} (h1 : ls'.size = n) (h2 : lv_wf ls') : lv_has ls' n (mj_al ls') := ⟨h1, h2, fun _ h => mj_al_at h⟩
theorem mj_L_set1 {ad : Nat → Nat} {n : Nat} {ls : List Value} {ls' l2 : Array Slot} {i : Nat} {v w : Value} (h : mj_L ad n ls ls') (hi : i < n) (hl : mj_lg ls i = false) (hv : mj_V ad v w)
    (h2 : lv_has l2 n ((i, w) :: (mj_al ls').filter (fun q => !(q.1 == i) && !(q.1 + 1 == i && q.2.category == 2)))) : mj_L ad n (ls.set i v) l2 := by
  refine ⟨h2.1, h2.2.1, by rw [List.length_set]; exact h.2.2.1, fun j u hj hu => ?_⟩
  rw [List.getElem?_set] at hj
  by_cases e : i = j
  · subst e
    rw [if_pos rfl, if_pos (by rw [h.2.2.1]; exact hi)] at hj
    cases hj
    exact ⟨w, hv, h2.2.2 (i, w) List.mem_cons_self⟩
  · rw [if_neg e] at hj
    obtain ⟨z, g1, g2⟩ := h.2.2.2 j u hj hu
    refine ⟨z, g1, h2.2.2 (j, z) (List.mem_cons_of_mem _ (List.mem_filter.mpr ⟨mj_al_mem g2, ?_⟩))⟩
    have e1 : (j == i) = false := by simpa using fun q => e q.symm
    have e2 : (j + 1 == i && z.category == 2) = false := by
      by_cases q : j + 1 = i
      · have hz : z.category = u.category := mj_V_cat g1
        subst q
        have : mj_lg ls (j + 1) = (match ls[j]? with
          | some (.long _) => true
          | _ => false) := rfl
        rw [this, hj] at hl
        rw [hz]
        rcases g1 with ⟨rfl, -⟩ | ⟨g1, -⟩
        · simp [mj_X, Value.category]
        · cases u <;> simp_all [Value.category, mj_pl]
      · have : (j + 1 == i) = false := by simpa using q
        rw [this]; rfl
    dsimp only
    rw [e1, e2]
    rfl
theorem mj_L_set2 {ad : Nat → Nat} {n : Nat} {ls : List Value} {ls' l2 : Array Slot} {i : Nat} {v w : Value} (h : mj_L ad n ls ls') (hi : i + 1 < n) (hl : mj_lg ls i = false) (hv : mj_V ad v w)
    (h2 : lv_has l2 n ((i, w) :: (mj_al ls').filter (fun q => !(q.1 == i) && (!(q.1 == i + 1) && !(q.1 + 1 == i && q.2.category == 2))))) : mj_L ad n ((ls.set i v).set (i + 1) mj_U) l2 := by
  refine ⟨h2.1, h2.2.1, by rw [List.length_set, List.length_set]; exact h.2.2.1, fun j u hj hu => ?_⟩
  rw [List.getElem?_set, List.getElem?_set, List.length_set] at hj
  by_cases e' : i + 1 = j
  · subst e'
    rw [if_pos rfl, if_pos (by rw [h.2.2.1]; exact hi)] at hj
    cases hj
    exact absurd rfl hu
  · rw [if_neg e'] at hj
    by_cases e : i = j
    · subst e
      rw [if_pos rfl, if_pos (by rw [h.2.2.1]; omega)] at hj
      cases hj
      exact ⟨w, hv, h2.2.2 (i, w) List.mem_cons_self⟩
    · rw [if_neg e] at hj
      obtain ⟨z, g1, g2⟩ := h.2.2.2 j u hj hu
      refine ⟨z, g1, h2.2.2 (j, z) (List.mem_cons_of_mem _ (List.mem_filter.mpr ⟨mj_al_mem g2, ?_⟩))⟩
      have e1 : (j == i) = false := by simpa using fun q => e q.symm
      have e3 : (j == i + 1) = false := by simpa using fun q => e' q.symm
      have e2 : (j + 1 == i && z.category == 2) = false := by
        by_cases q : j + 1 = i
        · have hz : z.category = u.category := mj_V_cat g1
          subst q
          have : mj_lg ls (j + 1) = (match ls[j]? with
            | some (.long _) => true
            | _ => false) := rfl
          rw [this, hj] at hl
          rw [hz]
          rcases g1 with ⟨rfl, -⟩ | ⟨g1, -⟩
          · simp [mj_X, Value.category]
          · cases u <;> simp_all [Value.category, mj_pl]
        · have : (j + 1 == i) = false := by simpa using q
          rw [this]; rfl
      dsimp only
      rw [e1, e2, e3]
      rfl
theorem mj_args_at : ∀ (vs : List Value) (k i : Nat) (v : Value), (∀ u ∈ vs, u.category = 1) → vs[i]? = some v → (k + i, v) ∈ lv_args k vs
  | [], k, i, v, _, h => by simp at h
  | u :: vs, k, 0, v, _, h => by
    cases h
    exact List.mem_cons_self
  | u :: vs, k, i + 1, v, hc, h => by
    have h1 : u.category = 1 := hc u List.mem_cons_self
    have h2 := mj_args_at vs (k + 1) i v (fun z hz => hc z (List.mem_cons_of_mem _ hz)) h
    show _ ∈ (k, u) :: lv_args (if u.category = 2 then k + 2 else k + 1) vs
    rw [h1, if_neg (by decide), show k + (i + 1) = k + 1 + i by omega]
    exact List.mem_cons_of_mem _ h2
theorem mj_sl_len : ∀ vs : List Value, (∀ u ∈ vs, u.category = 1) → (lg_sl vs).length = vs.length
  | [], _ => rfl
  | u :: vs, hc => by
    have h1 : u.category = 1 := hc u List.mem_cons_self
    have h2 := mj_sl_len vs (fun z hz => hc z (List.mem_cons_of_mem _ hz))
    unfold lg_sl at h2 ⊢
    rw [List.flatMap_cons, h1, if_neg (by decide), List.length_append, h2]
    simp [Nat.add_comm]
theorem mj_L_entry {ad : Nat → Nat} {n : Nat} {as : List Value} (hn : as.length ≤ n) (hp : as.all mj_pl = true) (hc : ∀ v ∈ as, v.category = 1) :
    mj_L ad n (as ++ List.replicate (n - as.length) mj_U) ((lg_sl (as.map (mj_rl ad)) ++ List.replicate (n - (lg_sl (as.map (mj_rl ad))).length) Slot.unset).toArray) := by
  have hc' : ∀ v ∈ as.map (mj_rl ad), v.category = 1 := by
    intro v hv
    obtain ⟨u, hu, rfl⟩ := List.mem_map.mp hv
    rw [← hc u hu]
    cases u <;> rfl
  have hlen : (lg_sl (as.map (mj_rl ad))).length = as.length := by rw [mj_sl_len _ hc', List.length_map]
  obtain ⟨h1, h2, h3⟩ := lv_entry (as.map (mj_rl ad)) (n := n) (by omega)
  refine ⟨h1, h2, by simp; omega, fun i v hi hu => ?_⟩
  rw [List.getElem?_append] at hi
  by_cases g : i < as.length
  · rw [if_pos g] at hi
    have hv := List.all_eq_true.mp hp v (List.mem_of_getElem? hi)
    refine ⟨mj_rl ad v, mj_V_of hv, ?_⟩
    have := mj_args_at (as.map (mj_rl ad)) 0 i (mj_rl ad v) hc' (by rw [List.getElem?_map, hi]; rfl)
    rw [Nat.zero_add] at this
    exact h3 _ this
  · rw [if_neg g] at hi
    have := List.mem_of_getElem? hi
    rw [List.mem_replicate] at this
    exact absurd this.2 hu
