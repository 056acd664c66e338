section
variable {sc : Nat × (Nat → Int32)} {tx : Nat → List Int32} {na : Nat → Nat × Nat} {R R' : mj_R} {hd : List (Nat × Nat × Nat × Nat)} {J J' : mj_J} {Q Q' : mj_Q} {bl : Nat → Option (mj_B × Nat)}
theorem mj_af_mono (hJ : ∀ t ls st h cl rc rs, J t ls st h cl rc rs → J' t ls st h cl rc rs) (hQ : ∀ o h cl, Q o h cl → Q' o h cl) {pc : Nat} {ls rest : List Value} {K K' : List Value → mj_H → Bool → Nat → Nat → Prop} (hK : ∀ st h cl rc rs, K st h cl rc rs → K' st h cl rc rs) {o : mj_O} {h : mj_H} {cl : Bool} {rc rs : Nat} : mj_af hd J Q pc ls rest K o h cl rc rs → mj_af hd J' Q' pc ls rest K' o h cl rc rs := by
  unfold mj_af
  cases o with
  | inl v =>
    cases v with
    | none => exact hK _ _ _ _ _
    | some v => exact hK _ _ _ _ _
  | inr x =>
    dsimp only
    cases mj_find hd pc x with
    | none => exact hQ _ _ _
    | some t => exact hJ _ _ _ _ _ _ _
set_option maxHeartbeats 4000000 in
theorem mj_b_mono (hR : ∀ j as h cl dc ds o h' cl', R j as h cl dc ds o h' cl' → R' j as h cl dc ds o h' cl') (hJ : ∀ t ls st h cl rc rs, J t ls st h cl rc rs → J' t ls st h cl rc rs) (hQ : ∀ o h cl, Q o h cl → Q' o h cl) :
    ∀ (is : mj_B) (ft : Nat) (ls st : List Value) (h : mj_H) (cl : Bool) (rc rs : Nat), mj_b sc tx na R hd J Q is ft ls st h cl rc rs → mj_b sc tx na R' hd J' Q' is ft ls st h cl rc rs := by
  intro is
  induction is with
  | nil => intro ft ls st h cl rc rs H; exact hJ _ _ _ _ _ _ _ H
  | cons e is ih =>
    obtain ⟨pc, i⟩ := e
    intro ft ls st h cl rc rs
    cases i
    all_goals first
      | exact fun H => H.elim
      | exact ih _ _ _ _ _ _ _
      | exact hJ _ _ _ _ _ _ _
      | (refine Exists.imp fun _ => Exists.imp fun _ => And.imp_right ?_; exact And.imp (fun k c => hJ _ _ _ _ _ _ _ (k c)) (fun k c => ih _ _ _ _ _ _ _ (k c)))
      | (refine Exists.imp fun _ => Exists.imp fun _ => Exists.imp fun _ => And.imp_right ?_; exact And.imp (fun k c => hJ _ _ _ _ _ _ _ (k c)) (fun k c => ih _ _ _ _ _ _ _ (k c)))
      | (refine Exists.imp fun _ => Exists.imp fun _ => And.imp_right (And.imp (fun k c => hJ _ _ _ _ _ _ _ (k c)) (fun k c => ?_)); exact (k c).imp fun _ => And.imp_right (hJ _ _ _ _ _ _ _))
      | (repeat first
          | refine Exists.imp fun _ => ?_
          | exact ih _ _ _ _ _ _ _
          | exact hJ _ _ _ _ _ _ _
          | exact hQ _ _ _
          | exact And.imp (hR _ _ _ _ _ _ _ _ _) (mj_af_mono hJ hQ (fun st h cl rc rs => ih _ _ _ _ _ _ _))
          | refine And.imp_right ?_)
theorem mj_w_step {pc : Nat} {ls st : List Value} {h : mj_H} {cl : Bool} {rc rs : Nat} {b : mj_B × Nat} (hb : bl pc = some b) (H : mj_b sc tx na R hd (mj_w sc tx na R hd bl Q) Q b.1 b.2 ls st h cl rc rs) : mj_w sc tx na R hd bl Q pc ls st h cl rc rs :=
  fun P hP => hP pc ls st h cl rc rs b hb (mj_b_mono (fun _ _ _ _ _ _ _ _ _ k => k) (fun _ _ _ _ _ _ _ k => k P hP) (fun _ _ _ k => k) _ _ _ _ _ _ _ _ H)
theorem mj_w_mono (hR : ∀ j as h cl dc ds o h' cl', R j as h cl dc ds o h' cl' → R' j as h cl dc ds o h' cl') (hQ : ∀ o h cl, Q o h cl → Q' o h cl) {pc : Nat} {ls st : List Value} {h : mj_H} {cl : Bool} {rc rs : Nat} (H : mj_w sc tx na R hd bl Q pc ls st h cl rc rs) : mj_w sc tx na R' hd bl Q' pc ls st h cl rc rs :=
  fun P hP => H P fun pc ls st h cl rc rs b hb k => hP pc ls st h cl rc rs b hb (mj_b_mono hR (fun _ _ _ _ _ _ _ k => k) hQ _ _ _ _ _ _ _ _ k)
end
/-- a method's words: by its number: its class, its arguments, its locals, its handlers, its blocks -/
def mj_run (sc : Nat × (Nat → Int32)) (tx : Nat → List Int32) (na : Nat → Nat × Nat) (nl : Nat → Nat) (hd : Nat → List (Nat × Nat × Nat × Nat)) (bl : Nat → Nat → Option (mj_B × Nat)) : Nat → mj_R
  | 0 => fun _ _ _ _ _ _ _ _ _ => False
  | d + 1 => fun j as h cl dc ds o h' cl' => as.length ≤ nl j ∧ as.all mj_pl = true ∧ (∀ v ∈ as, v.category = 1) ∧ mj_w sc tx na (mj_run sc tx na nl hd bl d) (hd j) (bl j) (fun o1 h1 cl1 => o1 = o ∧ h1 = h' ∧ cl1 = cl') 0 (as ++ List.replicate (nl j - as.length) mj_U) [] h cl dc ds
theorem mj_run_mono1 {sc : Nat × (Nat → Int32)} {tx : Nat → List Int32} {na : Nat → Nat × Nat} {nl : Nat → Nat} {hd : Nat → List (Nat × Nat × Nat × Nat)} {bl : Nat → Nat → Option (mj_B × Nat)} : ∀ (d : Nat) (j : Nat) (as : List Value) (h : mj_H) (cl : Bool) (dc ds : Nat) (o : mj_O) (h' : mj_H) (cl' : Bool), mj_run sc tx na nl hd bl d j as h cl dc ds o h' cl' → mj_run sc tx na nl hd bl (d + 1) j as h cl dc ds o h' cl' := by
  intro d
  induction d with
  | zero => intro j as h cl dc ds o h' cl' H; exact H.elim
  | succ d ih =>
    intro j as h cl dc ds o h' cl' H
    exact ⟨H.1, H.2.1, H.2.2.1, mj_w_mono ih (fun _ _ _ k => k) H.2.2.2⟩
theorem mj_run_mono {sc : Nat × (Nat → Int32)} {tx : Nat → List Int32} {na : Nat → Nat × Nat} {nl : Nat → Nat} {hd : Nat → List (Nat × Nat × Nat × Nat)} {bl : Nat → Nat → Option (mj_B × Nat)} {d e : Nat} (hde : d ≤ e) {j : Nat} {as : List Value} {h : mj_H} {cl : Bool} {dc ds : Nat} {o : mj_O} {h' : mj_H} {cl' : Bool} (H : mj_run sc tx na nl hd bl d j as h cl dc ds o h' cl') : mj_run sc tx na nl hd bl e j as h cl dc ds o h' cl' := by
  obtain ⟨k, rfl⟩ := Nat.exists_eq_add_of_le hde
  clear hde
  induction k with
  | zero => exact H
  | succ k ih => exact mj_run_mono1 _ _ _ _ _ _ _ _ _ _ ih
