/-! ===== the text is emptied; the place of the last fault stays ===== -/
section
variable {s : lf_S} {T : Nat → Nat} {len : Nat}
theorem c_takeTellingK (h : oz_T s T len) {m : Nat} (hm : m ≤ 40) : ∃ t, f_Ways_takeTelling (nI m) s = some (decide (len ≤ m), t) ∧ t.1 3 0 = nI (if len ≤ m then len else 0) ∧ (∀ i, i < (if len ≤ m then len else 0) → t.1 4 i = nI (T i)) ∧ t.1 1 1 = nI 0 ∧ t.1 1 2 = s.1 1 2 ∧ oz_fr (fun p => p = 1 ∨ p = 3 ∨ p = 4) s t := by
  obtain ⟨h1, h2, h3, h4⟩ := h
  have cp : ∀ (u : lf_S) (n : Nat), n ≤ 40 → u.1 3 0 = nI n → (lf_cpk (0 : Int32) (0 : Int32) (u.1 3 0) 400 40 (fun k4 k5 k6 => lf_lt (lf_cp u 2 k4 4 k5 k6) (fun s3 => lf_lt (lf_w s3 1 1 (0 : Int32)) (fun s7 => some s7)))) = some (lf_w (lf_cp u 2 0 4 0 n) 1 1 (nI 0)) := by
    intro u n hn hu
    rw [hu]
    simp (disch := first | assumption | omega) only [lf_lt, pl_0, oz_cpk]
  have cpb : ∀ (u : lf_S) (n : Nat) (b : Bool), n ≤ 40 → u.1 3 0 = nI n → (lf_cpk (0 : Int32) (0 : Int32) (u.1 3 0) 400 40 (fun k4 k5 k6 => lf_lt (lf_cp u 2 k4 4 k5 k6) (fun s3 => lf_lt (lf_w s3 1 1 (0 : Int32)) (fun s7 => (lf_rb (lf_i b)).bind (fun q8 => some (q8, s7)))))) = some (b, lf_w (lf_cp u 2 0 4 0 n) 1 1 (nI 0)) := by
    intro u n b hn hu
    rw [hu]
    simp (disch := first | assumption | omega) only [lf_lt, pl_0, oz_cpk, oz_rbi, Option.bind_some]
  by_cases c : len ≤ m
  · rw [if_pos c, decide_eq_true c]
    have fr : oz_fr (fun p => p = 1 ∨ p = 3 ∨ p = 4) s (lf_w (lf_cp (lf_w s 3 0 (nI len)) 2 0 4 0 len) 1 1 (nI 0)) := oz_fr_tr (oz_fr_w (by omega)) (oz_fr_tr (oz_fr_cp (by omega)) (oz_fr_w (by omega)))
    refine ⟨lf_w (lf_cp (lf_w s 3 0 (nI len)) 2 0 4 0 len) 1 1 (nI 0), ?_, ?_, fun i hi => ?_, oz_w_s, by rw [oz_w_n (by omega), oz_cp_o (by omega), oz_w_o (by omega)], fr⟩
    · unfold f_Ways_takeTelling
      rw [h1, if_neg (of_eq_false (oz_lt_f c (by omega))), if_neg (by rw [pl_40]; exact of_eq_false (oz_lt_f hm (by omega))), oz_lt1']
      exact cpb (lf_w s 3 0 (nI len)) len true (by omega) oz_w_s
    · rw [oz_w_o (by omega), oz_cp_o (by omega)]; exact oz_w_s
    · rw [oz_w_o (by omega), oz_cp_s hi, oz_w_o (by omega)]; exact (h4 i hi).2.1
  · rw [if_neg c, decide_eq_false c]
    have fr : oz_fr (fun p => p = 1 ∨ p = 3 ∨ p = 4) s (lf_w (lf_cp (lf_w s 3 0 (nI 0)) 2 0 4 0 0) 1 1 (nI 0)) := oz_fr_tr (oz_fr_w (by omega)) (oz_fr_tr (oz_fr_cp (by omega)) (oz_fr_w (by omega)))
    refine ⟨lf_w (lf_cp (lf_w s 3 0 (nI 0)) 2 0 4 0 0) 1 1 (nI 0), ?_, ?_, fun i hi => by omega, oz_w_s, by rw [oz_w_n (by omega), oz_cp_o (by omega), oz_w_o (by omega)], fr⟩
    · unfold f_Ways_takeTelling
      rw [h1, if_pos (of_eq_true (oz_lt_t (by omega) (by omega))), oz_lt0']
      exact cpb (lf_w s 3 0 (nI 0)) 0 false (by omega) oz_w_s
    · rw [oz_w_o (by omega), oz_cp_o (by omega)]; exact oz_w_s
theorem c_takeSeenK (h : oz_T s T len) : ∃ t, f_Ways_takeSeen s = some (oz_sns T len, t) ∧ t.1 3 0 = nI (if len ≤ 40 then len else 0) ∧ (∀ i, i < (if len ≤ 40 then len else 0) → t.1 4 i = nI (T i)) ∧ t.1 1 1 = nI 0 ∧ t.1 1 2 = s.1 1 2 ∧ oz_fr (fun p => p = 1 ∨ p = 3 ∨ p = 4) s t := by
  obtain ⟨t, k1, g1, g2, g3, g5, g4⟩ := c_takeTellingK h (m := 40) (by omega)
  have hb : ∀ i, i < (if len ≤ 40 then len else 0) → T i ≤ 255 := fun i hi => (h.2.2.2 i (by split at hi <;> omega)).1
  have hN : (if len ≤ 40 then len else 0) ≤ 40 := by split <;> omega
  have hw0 : ∀ w, (if len ≤ 40 then len else 0) = w → oz_sns T len = ((decide (len ≤ 40) && decide (w % 2 = 0)) && oz_ok (oz_sn T) w) := by
    intro w hw
    unfold oz_sns
    rw [hw]
  generalize hw : (if len ≤ 40 then len else 0) = w at *
  rw [hw0 w rfl]
  have key := fun b => (oz_forI (N := w) (fun _ (_ : Bool) => True) (fun f i (x : Bool) => f_Ways_takeSeen_27 f (lf_i x) (nI i) t) (fun i x => x && oz_sn T i) (fun x => (lf_i x, t)) b trivial (fun _ _ _ _ => trivial) (by
      intro f x _
      rw [f_Ways_takeSeen_27, g1, oz_ile_t (by omega) (by omega)]) (by
      intro f i x hi _
      have hT := hb i hi
      rw [f_Ways_takeSeen_27, g1, oz_ile_f hi (by omega)]
      cases x with
      | false =>
        rw [if_pos (by decide +kernel)]
        simp only [lf_lt, pl_1, nI_add]
        rfl
      | true =>
        rw [if_neg (by decide +kernel)]
        simp (disch := first | assumption | omega) only [lf_lt, pl_1, pl_2, pl_100, nI_add, oz_ck, g2 i hi, oz_mod]
        unfold oz_sn
        by_cases c0 : i % 2 = 0
        · rw [if_pos (by rw [c0]; rfl), if_pos c0]
          by_cases c1 : T i < 100
          · rw [oz_ile_f c1 (by omega), decide_eq_true c1]; rfl
          · rw [oz_ile_t (by omega) (by omega), decide_eq_false c1]; rfl
        · rw [if_neg (by rw [pl_0, oz_eq (by omega) (by omega)]; exact c0), if_neg c0]
          by_cases c1 : T i < 2
          · rw [oz_ile_f c1 (by omega), decide_eq_true c1]; rfl
          · rw [oz_ile_t (by omega) (by omega), decide_eq_false c1]; rfl) 5000 (by omega)).1
  have e : ∀ n b, oz_it (fun i x => x && oz_sn T i) n b = (b && oz_ok (oz_sn T) n) := by
    intro n b
    induction n with
    | zero => show b = (b && true); rw [Bool.and_true]
    | succ n ih => show (oz_it _ n b && oz_sn T n) = (b && (oz_ok (oz_sn T) n && oz_sn T n)); rw [ih, Bool.and_assoc]
  refine ⟨t, ?_, g1, g2, g3, g5, g4⟩
  unfold f_Ways_takeSeen
  have p8 : (40 : Int32) = nI 40 := rfl
  rw [p8, k1, Option.bind_some]
  try dsimp only
  cases c : decide (len ≤ 40) with
  | false =>
    rw [if_neg (by simp)]
    have k := key false
    rw [e] at k
    change f_Ways_takeSeen_27 5000 (nI 0) (nI 0) t = _ at k
    simp only [lf_lt, pl_0, k, Option.bind_some, oz_rbi]
    rfl
  | true =>
    rw [if_pos rfl, g1]
    by_cases c2 : w % 2 = 0
    · have k := key true
      rw [e] at k
      change f_Ways_takeSeen_27 5000 (nI 1) (nI 0) t = _ at k
      rw [if_pos (by rw [pl_2, oz_mod (by omega) (by omega) (by omega), c2]; rfl), decide_eq_true c2]
      simp only [lf_lt, pl_0, pl_1, k, Option.bind_some, oz_rbi]
      rfl
    · have k := key false
      rw [e] at k
      change f_Ways_takeSeen_27 5000 (nI 0) (nI 0) t = _ at k
      rw [if_neg (by rw [pl_2, oz_mod (by omega) (by omega) (by omega), pl_0, oz_eq (by omega) (by omega)]; exact c2), decide_eq_false c2]
      simp only [lf_lt, pl_0, k, Option.bind_some, oz_rbi]
      rfl
theorem c_takePiecesK (h : oz_T s T len) : ∃ t, f_Ways_takePieces s = some (oz_pcs T len, t) ∧ t.1 3 0 = nI (if len ≤ 8 then len else 0) ∧ (∀ i, i < (if len ≤ 8 then len else 0) → t.1 4 i = nI (T i)) ∧ t.1 1 1 = nI 0 ∧ t.1 1 2 = s.1 1 2 ∧ oz_fr (fun p => p = 1 ∨ p = 3 ∨ p = 4) s t := by
  obtain ⟨t, k1, g1, g2, g3, g5, g4⟩ := c_takeTellingK h (m := 8) (by omega)
  have hb : ∀ i, i < (if len ≤ 8 then len else 0) → T i ≤ 255 := fun i hi => (h.2.2.2 i (by split at hi <;> omega)).1
  have hN : (if len ≤ 8 then len else 0) ≤ 8 := by split <;> omega
  generalize hw : (if len ≤ 8 then len else 0) = w at *
  have key := (oz_forI (N := w) (fun _ (_ : Bool) => True) (fun f i (x : Bool) => f_Ways_takePieces_10 f (lf_i x) (nI i) t) (fun i x => x && oz_pc T i) (fun x => (lf_i x, t)) (decide (len ≤ 8)) trivial (fun _ _ _ _ => trivial) (by
      intro f x _
      rw [f_Ways_takePieces_10, g1, oz_ile_t (by omega) (by omega)]) (by
      intro f i x hi _
      have hT := hb i hi
      rw [f_Ways_takePieces_10, g1, oz_ile_f hi (by omega)]
      cases x with
      | false =>
        rw [if_pos (by decide +kernel)]
        simp only [lf_lt, pl_1, nI_add]
        rfl
      | true =>
        rw [if_neg (by decide +kernel)]
        simp (disch := first | assumption | omega) only [lf_lt, pl_1, pl_72, nI_add, oz_ck, g2 i hi]
        unfold oz_pc
        by_cases c1 : T i < 1
        · rw [oz_ilt_t c1 (by omega), decide_eq_false (by omega)]; rfl
        · rw [oz_ilt_f (by omega) (by omega)]
          by_cases c2 : 72 < T i
          · rw [oz_ilt_t c2 (by omega), decide_eq_false (by omega)]; rfl
          · rw [oz_ilt_f (by omega) (by omega), decide_eq_true (by omega)]; rfl) 5000 (by omega)).1
  have e : ∀ n b, oz_it (fun i x => x && oz_pc T i) n b = (b && oz_ok (oz_pc T) n) := by
    intro n b
    induction n with
    | zero => show b = (b && true); rw [Bool.and_true]
    | succ n ih => show (oz_it _ n b && oz_pc T n) = (b && (oz_ok (oz_pc T) n && oz_pc T n)); rw [ih, Bool.and_assoc]
  rw [e] at key
  refine ⟨t, ?_, g1, g2, g3, g5, g4⟩
  unfold f_Ways_takePieces
  have p8 : (8 : Int32) = nI 8 := rfl
  rw [p8, k1, Option.bind_some]
  simp only [lf_lt, pl_0, key, Option.bind_some, oz_rbi]
  unfold oz_pcs
  rw [hw]
theorem c_foundK (h : oz_T s T len) (x : Int32) : ∃ t, f_Main_found x s = some (if oz_sns T len = true then Sum.inr (oz_fd T (len / 2) x) else Sum.inl 0, t) ∧ t.1 1 1 = nI 0 ∧ t.1 1 2 = s.1 1 2 ∧ oz_fr (fun p => p = 1 ∨ p = 3 ∨ p = 4 ∨ p = 8) s t := by
  obtain ⟨t, k1, g1, g2, g3, g5, g4⟩ := c_takeSeenK h
  unfold f_Main_found
  rw [k1, Option.bind_some]
  try dsimp only
  cases c : oz_sns T len with
  | false =>
    rw [oz_tape_f rfl, if_neg (by simp)]
    exact ⟨t, rfl, g3, g5, oz_fr_mono g4 (by omega)⟩
  | true =>
    obtain ⟨H, rfl, hH, hT⟩ := oz_sns_t c
    rw [show 2 * H / 2 = H by omega]
    rw [if_pos (by omega)] at g1 g2
    have E : oz_SE t T H := ⟨hH, g1, fun i hi => ⟨by have := hT i hi; split at this <;> omega, g2 i hi⟩⟩
    obtain ⟨u, l1, l2, l3, l4⟩ := c_findWeaves E
    have l80 := oz_nm_le80 (T := T) (H := H) (n := 450) (by omega)
    have K1 := l2.1
    rw [oz_nm_450] at K1
    have fr : oz_fr (fun p => p = 1 ∨ p = 3 ∨ p = 4 ∨ p = 8) s u := oz_fr_tr (oz_fr_mono g4 (by omega)) (oz_fr_mono l3 (by omega))
    refine ⟨u, ?_, by rw [l3.1 1 (by omega)]; exact g3, by rw [l3.1 1 (by omega)]; exact g5, fr⟩
    rw [oz_tape_t rfl, if_pos rfl]
    unfold lf_tb oz_fd
    rw [Option.bind_some]
    try dsimp only
    rw [l1, Option.bind_some]
    by_cases cx : x = 0
    · rw [if_pos cx, if_pos cx, K1]
    · rw [if_neg cx, if_neg cx, K1]
      have F := oz_fst_nm (P := oz_fw T H) 450 0 rfl
      rw [Nat.zero_add] at F
      cases cf : oz_fst (oz_fw T H) 0 450 with
      | none =>
        rw [F.1 cf, pl_0, oz_ile_t (by omega) (by omega), pl_1, oz_neg1]; rfl
      | some w =>
        obtain ⟨f1, f2, f3⟩ := F.2 w cf
        have e := l2.2 w (by omega) f2
        rw [f3] at e
        have m := oz_nm_mono (P := oz_fw T H) (m := w + 1) (449 - w)
        rw [oz_nm_t f2, show w + 1 + (449 - w) = 450 by omega] at m
        rw [pl_0, oz_ile_f (by omega) (by omega), oz_ck (by omega) (by omega), e]
        rfl
theorem c_lookK (h : oz_T s T len) : ∃ t, f_Main_look s = some (if oz_sns T len = true then Sum.inr (oz_en (oz_lk T (len / 2))) else Sum.inl 0, t) ∧ t.1 1 1 = nI 0 ∧ t.1 1 2 = s.1 1 2 ∧ oz_fr (fun p => p = 1 ∨ p = 3 ∨ p = 4 ∨ p = 8) s t := by
  obtain ⟨t, k1, g1, g2, g3, g5, g4⟩ := c_takeSeenK h
  unfold f_Main_look
  rw [k1, Option.bind_some]
  try dsimp only
  cases c : oz_sns T len with
  | false =>
    rw [oz_tape_f rfl, if_neg (by simp)]
    exact ⟨t, rfl, g3, g5, oz_fr_mono g4 (by omega)⟩
  | true =>
    obtain ⟨H, rfl, hH, hT⟩ := oz_sns_t c
    rw [show 2 * H / 2 = H by omega]
    rw [if_pos (by omega)] at g1 g2
    have E : oz_SE t T H := ⟨hH, g1, fun i hi => ⟨by have := hT i hi; split at this <;> omega, g2 i hi⟩⟩
    obtain ⟨u, l1, l2, l3, l4⟩ := c_findWeaves E
    have fr : oz_fr (fun p => p = 1 ∨ p = 3 ∨ p = 4 ∨ p = 8) s u := oz_fr_tr (oz_fr_mono g4 (by omega)) (oz_fr_mono l3 (by omega))
    refine ⟨u, ?_, by rw [l3.1 1 (by omega)]; exact g3, by rw [l3.1 1 (by omega)]; exact g5, fr⟩
    rw [oz_tape_t rfl, if_pos rfl]
    unfold lf_tb
    rw [Option.bind_some]
    try dsimp only
    rw [l1, Option.bind_some, c_placeToLook l2, Option.bind_some]
theorem c_piecesK (h : oz_T s T len) (x : Int32) : ∃ t, f_Main_pieces x s = some (oz_pcR T len x (fun f => oz_en (oz_rd T len (12 * f))), t) ∧ t.1 1 1 = nI 0 ∧ t.1 1 2 = s.1 1 2 ∧ oz_fr (fun p => p = 1 ∨ (3 ≤ p ∧ p ≤ 7)) s t := by
  obtain ⟨t, k1, g1, g2, g3, g5, g4⟩ := c_takePiecesK h
  unfold f_Main_pieces oz_pcR
  rw [k1, Option.bind_some]
  simp only [lf_lt]
  rcases oz_isft x with ⟨f, f1, f2, f3, f4⟩ | ⟨f1, f2⟩
  · rw [f4, if_pos (by omega), f3, c_needFeet_t f1 f2]
    unfold lf_tb
    rw [Option.bind_some]
    try dsimp only
    cases c : oz_pcs T len with
    | false =>
      rw [oz_tape_f rfl, if_neg (by simp)]
      exact ⟨t, rfl, g3, g5, oz_fr_mono g4 (by omega)⟩
    | true =>
      have hl := oz_pcs_l c
      rw [if_pos hl] at g1 g2
      obtain ⟨u, l1, l2, l3, l4⟩ := c_fewestRods (s := t) hl f2 (T := T) (fun j hj => (h.2.2.2 j hj).1) g1 g2
      rw [oz_tape_t rfl, if_pos rfl, Option.bind_some]
      try dsimp only
      rw [l1, Option.bind_some]
      exact ⟨u, rfl, by rw [l2.1 1 (by omega)]; exact g3, by rw [l2.1 1 (by omega)]; exact g5, oz_fr_tr (oz_fr_mono g4 (by omega)) (oz_fr_mono l2 (by omega))⟩
  · rw [if_neg f2, c_needFeet_f f1]
    exact ⟨t, rfl, g3, g5, oz_fr_mono g4 (by omega)⟩
theorem c_rodK (h : oz_T s T len) (x y : Int32) : ∃ t, f_Main_rod x y s = some (oz_pcR T len x (fun f => oz_rod T len (12 * f) y), t) ∧ t.1 1 1 = nI 0 ∧ t.1 1 2 = s.1 1 2 ∧ oz_fr (fun p => p = 1 ∨ (3 ≤ p ∧ p ≤ 7)) s t := by
  obtain ⟨t, k1, g1, g2, g3, g5, g4⟩ := c_takePiecesK h
  unfold f_Main_rod oz_pcR
  rw [k1, Option.bind_some]
  simp only [lf_lt]
  rcases oz_isft x with ⟨f, f1, f2, f3, f4⟩ | ⟨f1, f2⟩
  · rw [f4, if_pos (by omega), f3, c_needFeet_t f1 f2]
    unfold lf_tb
    rw [Option.bind_some]
    try dsimp only
    cases c : oz_pcs T len with
    | false =>
      rw [oz_tape_f rfl, if_neg (by simp)]
      exact ⟨t, rfl, g3, g5, oz_fr_mono g4 (by omega)⟩
    | true =>
      have hl := oz_pcs_l c
      rw [if_pos hl] at g1 g2
      obtain ⟨u, l1, l2, l3, l4⟩ := c_fewestRods (s := t) hl f2 (T := T) (fun j hj => (h.2.2.2 j hj).1) g1 g2
      rw [oz_tape_t rfl, if_pos rfl, Option.bind_some]
      try dsimp only
      rw [l1, Option.bind_some, show ((f : Nat) : Int).toNat = f from Int.toNat_natCast f]
      refine ⟨u, ?_, by rw [l2.1 1 (by omega)]; exact g3, by rw [l2.1 1 (by omega)]; exact g5, oz_fr_tr (oz_fr_mono g4 (by omega)) (oz_fr_mono l2 (by omega))⟩
      unfold oz_rod
      try dsimp only
      rw [pl_1, oz_neg1]
      cases hm : oz_rd T len (12 * f) with
      | none => exact if_pos rfl
      | some m =>
        obtain ⟨A, a1, a2⟩ := l4 m hm
        have hmm := (oz_fst_sp _ _ hm).2.2.1
        rw [if_neg (show ¬ oz_en (some m) = oz_N from of_eq_false (oz_eqm1 (by omega))), l3]
        try dsimp only
        rw [a1]
        try dsimp only
        by_cases c1 : y.toInt < 0
        · rw [if_pos (show y < 0 by rw [Int32.lt_iff_toInt_lt]; exact c1), if_neg (by omega)]
        · rw [if_neg (show ¬ y < 0 by rw [Int32.lt_iff_toInt_lt]; exact c1)]
          by_cases c2 : y.toInt < len
          · have e : y.toInt = ((y.toInt.toNat : Nat) : Int) := by omega
            rw [if_pos (show y < nI len by rw [Int32.lt_iff_toInt_lt, oz_ti (by omega)]; exact c2), if_pos (by omega)]
            have ey := oz_toInt_eq e (by omega)
            generalize y.toInt.toNat = v at *
            rw [ey, oz_ck (by omega) (by omega), a2 v (by omega)]
          · rw [if_neg (show ¬ y < nI len by rw [Int32.lt_iff_toInt_lt, oz_ti (by omega)]; exact c2), if_neg (by omega)]
  · rw [if_neg f2, c_needFeet_f f1]
    exact ⟨t, rfl, g3, g5, oz_fr_mono g4 (by omega)⟩
/-- the text, on the model's side alone -/
def oz_TN (s : lf_S) (T : Nat → Nat) (len : Nat) : Prop := True ∧ s.1 389 8 = nI len ∧ len ≤ 400 ∧ ∀ i, i < len → T i ≤ 255 ∧ True ∧ s.1 394 i = nI (T i)
theorem m_seesM (h : oz_TN s T len) : ∃ t, f_Mod_sees s = some (oz_sns T len, t) ∧ (oz_sns T len = true → ∀ w, w < 450 → t.1 403 w = lf_i (oz_fw T (len / 2) w)) ∧ t.1 389 8 = nI 0 ∧ oz_fr (fun p => p = 389 ∨ p = 403) s t ∧ ∀ j, j ≠ 8 → t.1 389 j = s.1 389 j := by
  obtain ⟨h1, h2, h3, h4⟩ := h
  have hs : ∀ i, i < len → (lf_w s 389 8 (nI 0)).1 394 i = nI (T i) := fun i hi => by rw [oz_w_o (by omega)]; exact (h4 i hi).2.2
  have ff : oz_sns T len = false → ∃ t, some (false, lf_w s 389 8 (nI 0)) = some (oz_sns T len, t) ∧ (oz_sns T len = true → ∀ w, w < 450 → t.1 403 w = lf_i (oz_fw T (len / 2) w)) ∧ t.1 389 8 = nI 0 ∧ oz_fr (fun p => p = 389 ∨ p = 403) s t ∧ ∀ j, j ≠ 8 → t.1 389 j = s.1 389 j := by
    intro e
    rw [e]
    exact ⟨_, rfl, fun z => Bool.noConfusion z, oz_w_s, oz_fr_w (by omega), fun j hj => oz_w_n hj⟩
  have i0 : lf_i false = nI 0 := by decide +kernel
  have i1 : lf_i true = nI 1 := by decide +kernel
  unfold f_Mod_sees
  simp only [lf_lt, pl_0, pl_1, pl_2, h2]
  by_cases c2 : len % 2 = 0
  · rw [if_pos (by rw [oz_mod (by omega) (by omega) (by omega), c2])]
    by_cases c4 : 40 < len
    · rw [pl_40, oz_ilt_t c4 (by omega), m_sees30_0 h3, Option.bind_some]
      try dsimp only
      rw [m_sees76_0 i0, Option.bind_some, oz_rbi, Option.bind_some]
      refine ff ?_
      unfold oz_sns
      rw [decide_eq_false (show ¬ len ≤ 40 by omega)]; rfl
    · rw [pl_40, oz_ilt_f (by omega) (by omega)]
      obtain ⟨H, rfl⟩ : ∃ H, len = 2 * H := ⟨len / 2, by omega⟩
      have hH : H ≤ 20 := by omega
      rw [m_sees30 hH (T := T) (fun i hi => ⟨(h4 i hi).1, hs i hi⟩), Option.bind_some]
      try dsimp only
      have es := oz_sns_pr (T := T) hH
      rw [← es]
      cases c : oz_sns T (2 * H) with
      | false =>
        rw [m_sees76_0 i0, Option.bind_some, oz_rbi, Option.bind_some, ← c]
        have := ff c
        rw [← c] at this
        exact this
      | true =>
        obtain ⟨H', e, _, hT⟩ := oz_sns_t c
        obtain rfl : H = H' := by omega
        obtain ⟨y, k1, k2, k3⟩ := m_sees76 (s := lf_w s 389 8 (nI 0)) hH (T := T) (fun i hi => ⟨hT i hi, hs i hi⟩)
        rw [i1, k1, Option.bind_some, ← i1, oz_rbi, Option.bind_some]
        refine ⟨y, rfl, fun _ => ?_, ?_, oz_fr_tr (oz_fr_w (by omega)) (oz_fr_mono k3 (by omega)), fun j hj => ?_⟩
        · rw [show 2 * H / 2 = H by omega]; exact k2
        · rw [k3.1 389 (by omega)]; exact oz_w_s
        · rw [k3.1 389 (by omega)]; exact oz_w_n hj
  · rw [if_neg (by rw [oz_mod (by omega) (by omega) (by omega), oz_eq (by omega) (by omega)]; exact c2), m_sees30_0 h3, Option.bind_some]
    try dsimp only
    rw [m_sees76_0 i0, Option.bind_some, oz_rbi, Option.bind_some]
    refine ff ?_
    unfold oz_sns
    by_cases c4 : len ≤ 40
    · rw [if_pos c4, decide_eq_false c2, Bool.and_false]; rfl
    · rw [decide_eq_false c4]; rfl
theorem m_foundM (h : oz_TN s T len) (x : Int32) : ∃ t, f_Mod_found x s = some (if oz_sns T len = true then oz_fd T (len / 2) x else nI 0, t) ∧ t.1 389 0 = (if oz_sns T len = true then nI 0 else nI 1) ∧ t.1 389 8 = nI 0 ∧ oz_fr (fun p => p = 389 ∨ p = 403) s t ∧ ∀ j, j ≠ 8 → j ≠ 0 → t.1 389 j = s.1 389 j := by
  obtain ⟨t, k1, g1, g2, g3, g4⟩ := m_seesM h
  unfold f_Mod_found
  rw [k1, Option.bind_some]
  try dsimp only
  cases c : oz_sns T len with
  | false =>
    rw [if_neg (by simp), if_neg (by simp), if_neg (by simp)]
    refine ⟨lf_w t 389 0 (nI 1), ?_, oz_w_s, by rw [oz_w_n (by omega)]; exact g2, oz_fr_tr g3 (oz_fr_w (by omega)), fun j h1 h2 => by rw [oz_w_n h2]; exact g4 j h1⟩
    simp only [lf_lt, pl_0, pl_1, oz_w_s]
    rw [oz_ile_f (by omega) (by omega)]
  | true =>
    have g1' := g1 c
    have gw : ∀ w, w < 450 → (lf_w t 389 0 (nI 0)).1 403 w = lf_i (oz_fw T (len / 2) w) := fun w hw => by rw [oz_w_o (by omega)]; exact g1' w hw
    rw [if_pos rfl, if_pos rfl, if_pos rfl]
    refine ⟨lf_w t 389 0 (nI 0), ?_, oz_w_s, by rw [oz_w_n (by omega)]; exact g2, oz_fr_tr g3 (oz_fr_w (by omega)), fun j h1 h2 => by rw [oz_w_n h2]; exact g4 j h1⟩
    simp only [lf_lt, pl_0, oz_w_s]
    rw [oz_ile_t (by omega) (by omega), m_seenMany gw, m_found36 gw]
    unfold oz_fd
    by_cases cx : x = 0
    · rw [if_pos cx]; exact (if_pos cx).trans rfl
    · rw [if_neg cx]
      refine (if_neg cx).trans ?_
      rw [Option.bind_some]
      cases oz_fst (oz_fw T (len / 2)) 0 450 <;> rfl
theorem m_lookM (h : oz_TN s T len) : ∃ t, f_Mod_look s = some (if oz_sns T len = true then oz_en (oz_lk T (len / 2)) else nI 0, t) ∧ t.1 389 0 = (if oz_sns T len = true then nI 0 else nI 1) ∧ t.1 389 8 = nI 0 ∧ oz_fr (fun p => p = 389 ∨ p = 403) s t ∧ ∀ j, j ≠ 8 → j ≠ 0 → t.1 389 j = s.1 389 j := by
  obtain ⟨t, k1, g1, g2, g3, g4⟩ := m_seesM h
  unfold f_Mod_look
  rw [k1, Option.bind_some]
  try dsimp only
  cases c : oz_sns T len with
  | false =>
    rw [if_neg (by simp), if_neg (by simp), if_neg (by simp)]
    refine ⟨lf_w t 389 0 (nI 1), ?_, oz_w_s, by rw [oz_w_n (by omega)]; exact g2, oz_fr_tr g3 (oz_fr_w (by omega)), fun j h1 h2 => by rw [oz_w_n h2]; exact g4 j h1⟩
    simp only [lf_lt, pl_0, pl_1, oz_w_s]
    rw [oz_ile_f (by omega) (by omega)]
  | true =>
    have g1' := g1 c
    have gw : ∀ w, w < 450 → (lf_w t 389 0 (nI 0)).1 403 w = lf_i (oz_fw T (len / 2) w) := fun w hw => by rw [oz_w_o (by omega)]; exact g1' w hw
    rw [if_pos rfl, if_pos rfl, if_pos rfl]
    refine ⟨lf_w t 389 0 (nI 0), ?_, oz_w_s, by rw [oz_w_n (by omega)]; exact g2, oz_fr_tr g3 (oz_fr_w (by omega)), fun j h1 h2 => by rw [oz_w_n h2]; exact g4 j h1⟩
    simp only [lf_lt, pl_0, pl_1, oz_neg1, pl_2000000000, oz_w_s]
    rw [oz_ile_t (by omega) (by omega), m_seenMany gw, Option.bind_some, m_look39 gw, Option.bind_some]
theorem m_pieceManyM (h : oz_TN s T len) (x : Int32) : f_Mod_pieceMany x s = some (nI len, lf_w (lf_w s 389 8 (nI 0)) 389 0 (nI (oz_pcF T len x))) := by
  obtain ⟨h1, h2, h3, h4⟩ := h
  have hs : ∀ i, i < len → T i ≤ 255 ∧ (lf_w s 389 8 (nI 0)).1 394 i = nI (T i) := fun i hi => ⟨(h4 i hi).1, by rw [oz_w_o (by omega)]; exact (h4 i hi).2.2⟩
  have fin : ∀ b, b = oz_pcs T len → (f_Mod_isIn x (nI 1) (nI 6)).bind (fun p10 => (if p10 = true then (if lf_i b = nI 0 then some (nI len, lf_w (lf_w s 389 8 (nI 0)) 389 0 (nI 2)) else some (nI len, lf_w (lf_w s 389 8 (nI 0)) 389 0 (nI 0))) else some (nI len, lf_w (lf_w s 389 8 (nI 0)) 389 0 (nI 1)))) = some (nI len, lf_w (lf_w s 389 8 (nI 0)) 389 0 (nI (oz_pcF T len x))) := by
    intro b hb
    unfold oz_pcF
    rcases oz_isft x with ⟨f, f1, f2, f3, f4⟩ | ⟨f1, f2⟩
    · have hf : 1 ≤ ((f : Nat) : Int) ∧ ((f : Nat) : Int) ≤ 6 := by omega
      rw [f4, if_pos hf, f3, m_isIn_t f1 f2 (by omega), Option.bind_some, if_pos rfl, ← hb]
      cases b with
      | true => exact if_neg (by decide +kernel)
      | false => exact if_pos (by decide +kernel)
    · rw [if_neg f2, m_isIn_o f1]; rfl
  unfold f_Mod_pieceMany
  simp only [lf_lt, pl_0, pl_1, pl_2, pl_6, h2]
  by_cases c : 8 < len
  · rw [pl_8, oz_ilt_t c (by omega)]
    have e : f_Mod_pieceMany_25 x (nI len) 5000 (nI 0) (nI 0) (lf_w s 389 8 (nI 0)) = some (lf_i false, lf_w s 389 8 (nI 0)) := by
      rw [f_Mod_pieceMany_25, oz_ile_f (by omega) (by omega), if_pos (by decide +kernel)]; rfl
    rw [e, Option.bind_some]
    exact fin false (by unfold oz_pcs; rw [decide_eq_false (by omega)]; rfl)
  · rw [pl_8, oz_ilt_f (by omega) (by omega), m_pieceMany25 hs h3, Option.bind_some]
    exact fin _ (by unfold oz_pcs; rw [decide_eq_true (by omega), if_pos (by omega)]; rfl)
theorem m_piecesM (h : oz_TN s T len) (x : Int32) : ∃ t, f_Mod_pieces x s = some ((oz_pcR T len x (fun f => oz_en (oz_rd T len (12 * f)))).elim (fun _ => nI 0) id, t) ∧ t.1 389 0 = nI (oz_pcF T len x) ∧ t.1 389 8 = nI 0 ∧ oz_fr (fun p => p = 389 ∨ (401 ≤ p ∧ p ≤ 402)) s t ∧ ∀ j, j ≠ 8 → j ≠ 0 → t.1 389 j = s.1 389 j := by
  have fr0 : ∀ v, oz_fr (fun p => p = 389 ∨ (401 ≤ p ∧ p ≤ 402)) s (lf_w (lf_w s 389 8 (nI 0)) 389 0 v) := fun v => oz_fr_tr (oz_fr_w (by omega)) (oz_fr_w (by omega))
  unfold f_Mod_pieces
  rw [m_pieceManyM h x, Option.bind_some]
  simp only [lf_lt, pl_0, oz_w_s]
  unfold oz_pcF oz_pcR
  rcases oz_isft x with ⟨f, f1, f2, f3, f4⟩ | ⟨f1, f2⟩
  · have hf : 1 ≤ ((f : Nat) : Int) ∧ ((f : Nat) : Int) ≤ 6 := by omega
    rw [f4, if_pos hf, if_pos hf, f3]
    cases c : oz_pcs T len with
    | true =>
      have hl := oz_pcs_l c
      rw [if_pos rfl, if_pos rfl, oz_ile_t (by omega) (by omega)]
      obtain ⟨t, k1, k2, k3⟩ := m_rodsFor (s := lf_w (lf_w s 389 8 (nI 0)) 389 0 (nI 0)) (T := T) hl f2 (fun j hj => (h.2.2.2 j hj).1) (fun j hj => by rw [oz_w_o (by omega), oz_w_o (by omega)]; exact (h.2.2.2 j hj).2.2)
      rw [k1, Option.bind_some, show ((f : Nat) : Int).toNat = f from Int.toNat_natCast f]
      refine ⟨t, rfl, ?_, ?_, oz_fr_tr (fr0 _) (oz_fr_mono k2 (by omega)), fun j h1 h2 => ?_⟩
      · rw [k2.1 389 (by omega)]; exact oz_w_s
      · rw [k2.1 389 (by omega), oz_w_n (by omega)]; exact oz_w_s
      · rw [k2.1 389 (by omega), oz_w_n h2, oz_w_n h1]
    | false =>
      rw [if_neg (show ¬ (false = true) from Bool.noConfusion), if_neg (show ¬ (false = true) from Bool.noConfusion), oz_ile_f (by omega) (by omega)]
      exact ⟨_, rfl, oz_w_s, by rw [oz_w_n (by omega)]; exact oz_w_s, fr0 _, fun j h1 h2 => by rw [oz_w_n h2, oz_w_n h1]⟩
  · rw [if_neg f2, if_neg f2, oz_ile_f (by omega) (by omega)]
    exact ⟨_, rfl, oz_w_s, by rw [oz_w_n (by omega)]; exact oz_w_s, fr0 _, fun j h1 h2 => by rw [oz_w_n h2, oz_w_n h1]⟩
theorem m_rodM (h : oz_TN s T len) (x y : Int32) : ∃ t, f_Mod_rod x y s = some ((oz_pcR T len x (fun f => oz_rod T len (12 * f) y)).elim (fun _ => nI 0) id, t) ∧ t.1 389 0 = nI (oz_pcF T len x) ∧ t.1 389 8 = nI 0 ∧ oz_fr (fun p => p = 389 ∨ (401 ≤ p ∧ p ≤ 402)) s t ∧ ∀ j, j ≠ 8 → j ≠ 0 → t.1 389 j = s.1 389 j := by
  have fr0 : ∀ v, oz_fr (fun p => p = 389 ∨ (401 ≤ p ∧ p ≤ 402)) s (lf_w (lf_w s 389 8 (nI 0)) 389 0 v) := fun v => oz_fr_tr (oz_fr_w (by omega)) (oz_fr_w (by omega))
  unfold f_Mod_rod
  rw [m_pieceManyM h x, Option.bind_some]
  simp only [lf_lt, pl_0, oz_w_s]
  unfold oz_pcF oz_pcR
  rcases oz_isft x with ⟨f, f1, f2, f3, f4⟩ | ⟨f1, f2⟩
  · have hf : 1 ≤ ((f : Nat) : Int) ∧ ((f : Nat) : Int) ≤ 6 := by omega
    rw [f4, if_pos hf, if_pos hf, f3]
    cases c : oz_pcs T len with
    | true =>
      have hl := oz_pcs_l c
      rw [if_pos rfl, if_pos rfl, oz_ile_t (by omega) (by omega)]
      obtain ⟨t, k1, k2, k3⟩ := m_rodsFor (s := lf_w (lf_w s 389 8 (nI 0)) 389 0 (nI 0)) (T := T) hl f2 (fun j hj => (h.2.2.2 j hj).1) (fun j hj => by rw [oz_w_o (by omega), oz_w_o (by omega)]; exact (h.2.2.2 j hj).2.2)
      rw [k1, Option.bind_some, show ((f : Nat) : Int).toNat = f from Int.toNat_natCast f]
      refine ⟨t, ?_, ?_, ?_, oz_fr_tr (fr0 _) (oz_fr_mono k2 (by omega)), fun j h1 h2 => ?_⟩
      · unfold oz_rod
        try dsimp only
        rw [pl_1, oz_neg1]
        cases hm : oz_rd T len (12 * f) with
        | none => exact if_pos rfl
        | some m =>
          obtain ⟨A, a1, a2⟩ := k3 m hm
          have hmm := (oz_fst_sp _ _ hm).2.2.1
          rw [if_neg (show ¬ oz_en (some m) = oz_N from of_eq_false (oz_eqm1 (by omega)))]
          try dsimp only
          rw [a1]
          try dsimp only
          by_cases c2 : 0 ≤ y.toInt ∧ y.toInt < len
          · have e : y.toInt = ((y.toInt.toNat : Nat) : Int) := by omega
            have ey := oz_toInt_eq e (by omega)
            rw [if_pos c2]
            have hv : y.toInt.toNat < len := by omega
            generalize y.toInt.toNat = v at *
            rw [ey, m_isIx_t hv (by omega), Option.bind_some, if_pos rfl, oz_ck (by omega) (by omega), a2 v (by omega)]
            rfl
          · rw [if_neg c2]
            have co : y < nI 0 ∨ (¬ y < nI 0 ∧ nI len - nI 1 < y) := by
              rw [Int32.lt_iff_toInt_lt, Int32.lt_iff_toInt_lt, pk_sub_toInt (by omega) (by omega), oz_ti (by omega)]
              omega
            rw [m_isIn_o co]
            rfl
      · rw [k2.1 389 (by omega)]; exact oz_w_s
      · rw [k2.1 389 (by omega), oz_w_n (by omega)]; exact oz_w_s
      · rw [k2.1 389 (by omega), oz_w_n h2, oz_w_n h1]
    | false =>
      rw [if_neg (show ¬ (false = true) from Bool.noConfusion), if_neg (show ¬ (false = true) from Bool.noConfusion), oz_ile_f (by omega) (by omega)]
      exact ⟨_, rfl, oz_w_s, by rw [oz_w_n (by omega)]; exact oz_w_s, fr0 _, fun j h1 h2 => by rw [oz_w_n h2, oz_w_n h1]⟩
  · rw [if_neg f2, if_neg f2, oz_ile_f (by omega) (by omega)]
    exact ⟨_, rfl, oz_w_s, by rw [oz_w_n (by omega)]; exact oz_w_s, fr0 _, fun j h1 h2 => by rw [oz_w_n h2, oz_w_n h1]⟩
end
