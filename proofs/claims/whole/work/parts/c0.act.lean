/-! ===== acts ===== -/
section
variable {s : lf_S} {a a' : Nat → Nat} {L : List (Nat × Nat × List Nat)} {n o : Nat} {E : Nat → Nat → Nat} {T : Nat → Nat} {len : Nat}
theorem oz_pE_p {Q : (Nat → Nat) → Prop} (hn : n ≤ 12) (hE : ∀ i, i < n → Q (E i)) (ha : Q a) : ∀ i, i < oz_pn n → Q (oz_pE E n a i) := by
  intro i hi
  unfold oz_pn at hi
  unfold oz_pE
  split at hi
  · rename_i c
    rw [if_pos c]
    split
    · exact ha
    · exact hE (i + 1) (by omega)
  · rename_i c
    rw [if_neg c]
    split
    · exact ha
    · exact hE i (by omega)
theorem oz_mdd {t : lf_S} {b : Nat → Nat} : oz_md t b = oz_md (oz_md t b) b := by
  refine oz_S_ext (fun p => ?_) rfl
  by_cases c : p = 390
  · rw [c]; rfl
  · rw [oz_md_o c, oz_md_o c, oz_md_o c]
/-- what an act leaves on the class's side, and then on the model's -/
theorem oz_actI (I : oz_I s a L n o E T len) (V' : oz_V a') (e1 : a' 1 = a 1) (e2 : a' 2 = a 2) (e3 : ∀ j, 366 ≤ j → a' j = a j) {t1 s1 : lf_S} {o' : Nat} (P1 : oz_PC t1 (oz_pn n) o' (oz_pE E n a)) (f1 : oz_fr (fun p => p = 0 ∨ (101 ≤ p ∧ p < 389)) s t1) (g1 : t1.1 0 11 = s.1 0 11) (C' : oz_C s1 10 a') (f2 : oz_fr (fun p => (10 ≤ p ∧ p < 34) ∨ p = 39) t1 s1) {x : lf_S} (hx : x.1 = s1.1) : x = oz_md x a ∧ oz_PM x n E ∧ oz_LW x 34 a L ∧ ∀ t, oz_PM t (oz_pn n) (oz_pE E n a) → oz_fr (fun p => p = 389 ∨ p = 393 ∨ p = 395) x t → (∀ j, j = 3 ∨ j = 8 ∨ j = 12 → t.1 389 j = x.1 389 j) → oz_Inv (oz_md t a') := by
  obtain ⟨i1, i2, i3, i4, i5, i6, i7, i8, i9, i10⟩ := I
  obtain ⟨t1', t2', t3', t4'⟩ := i5
  have hp : ∀ p, ¬ ((p = 0 ∨ (101 ≤ p ∧ p < 389)) ∨ (10 ≤ p ∧ p < 34) ∨ p = 39) → x.1 p = s.1 p := fun p h => by rw [hx, f2.1 p (by omega), f1.1 p (by omega)]
  have h0 : x.1 0 = t1.1 0 := by rw [hx, f2.1 0 (by omega)]
  refine ⟨oz_row i1 (hp 390 (by omega)), oz_PM_fr i8 (by rw [hp 389 (by omega)]) (hp 393 (by omega)), oz_LW_cg i4 (fun p p1 p2 => hp p (by omega)) rfl rfl (fun _ _ => rfl), fun t PM f hj => ?_⟩
  have hq : ∀ p, p ≠ 389 → p ≠ 390 → p ≠ 393 → p ≠ 395 → (oz_md t a').1 p = x.1 p := fun p p1 p2 p3 p4 => by rw [oz_md_o p2, f.1 p (by omega)]
  have hj' : ∀ j, j = 3 ∨ j = 8 ∨ j = 12 → (oz_md t a').1 389 j = s.1 389 j := fun j h => by rw [oz_md_o (by omega), hj j h, hp 389 (by omega)]
  have hs : ∀ p, ¬ ((p = 0 ∨ (101 ≤ p ∧ p < 389)) ∨ (10 ≤ p ∧ p < 34) ∨ p = 39 ∨ p = 389 ∨ p = 390 ∨ p = 393 ∨ p = 395) → (oz_md t a').1 p = s.1 p := fun p h => by rw [hq p (by omega) (by omega) (by omega) (by omega), hp p (by omega)]
  have hV := oz_pE_p (Q := oz_V) i7.1 (fun i hi => (i9 i hi).1) i2
  refine ⟨a', L, oz_pn n, o', oz_pE E n a, T, len, oz_mdd, V', oz_C_fr V' C' (fun p p1 p2 => by rw [hq p (by omega) (by omega) (by omega) (by omega), hx]), oz_LW_cg i4 (fun p p1 p2 => hs p (by omega)) e1 e2 e3, ⟨by rw [hs 1 (by omega)]; exact t1', by rw [hj' 8 (by omega)]; exact t2', t3', fun i hi => by rw [hs 2 (by omega), hs 394 (by omega)]; exact t4' i hi⟩, by rw [hs 1 (by omega), hj' 12 (by omega)]; exact i6, oz_PC_fr P1 hV (by rw [hq 0 (by omega) (by omega) (by omega) (by omega), h0]) (by rw [hq 0 (by omega) (by omega) (by omega) (by omega), h0]) (fun p p1 p2 => by rw [hq p (by omega) (by omega) (by omega) (by omega), hx, f2.1 p (by omega)]), oz_PM_fr PM (by rw [oz_md_o (by omega)]) (oz_md_o (by omega)), ?_, ?_⟩
  · have := oz_pE_p (E := E) (n := n) (a := a) (Q := fun e => oz_V e ∧ e 1 = a 1 ∧ e 2 = a 2) i7.1 i9 ⟨i2, rfl, rfl⟩
    intro i hi
    obtain ⟨h1, h2, h3⟩ := this i hi
    exact ⟨h1, h2.trans e1.symm, h3.trans e2.symm⟩
  · have h11 : (oz_md t a').1 0 11 = s.1 0 11 := by rw [hq 0 (by omega) (by omega) (by omega) (by omega), h0, g1]
    rcases i10 with ⟨m1, m2⟩ | ⟨m1, m2, e, Le, m3, m4, m5, m6⟩
    · exact Or.inl ⟨h11.trans m1, (hj' 3 (by omega)).trans m2⟩
    · exact Or.inr ⟨h11.trans m1, (hj' 3 (by omega)).trans m2, e, Le, m3, oz_C_fr m3 m4 (fun p p1 p2 => hs p (by omega)), oz_LW_cg m5 (fun p p1 p2 => hs p (by omega)) rfl rfl (fun _ _ => rfl), fun j hj => by rw [hs 391 (by omega)]; exact m6 j hj⟩
/-- an act that answers a number -/
theorem oz_act {H : Nat → Option Int32} {F : Option ((Nat ⊕ Int32) × lf_S)} {G : lf_S → Option (Int32 × lf_S)} {v : Int32} (I : oz_I s a L n o E T len) (V' : oz_V a') (e1 : a' 1 = a 1) (e2 : a' 2 = a 2) (e3 : ∀ j, 366 ≤ j → a' j = a j) (hF : ∀ t1, f_Main_remember s = some t1 → oz_C t1 10 a → oz_fr (fun p => p = 0 ∨ (101 ≤ p ∧ p < 389)) s t1 → ∃ s1, F = some (Sum.inr v, s1) ∧ oz_C s1 10 a' ∧ oz_fr (fun p => (10 ≤ p ∧ p < 34) ∨ p = 39) t1 s1) (hG : ∀ x, oz_PM x n E → oz_LW x 34 a L → ∃ t, G (oz_md x a) = some (v, oz_md t a') ∧ t.1 389 0 = nI 0 ∧ oz_PM t (oz_pn n) (oz_pE E n a) ∧ oz_fr (fun p => p = 389 ∨ p = 393 ∨ p = 395) x t ∧ ∀ j, j = 3 ∨ j = 8 ∨ j = 12 → t.1 389 j = x.1 389 j) : oz_An H F G := by
  obtain ⟨t1, o', k1, k2, k3, k4⟩ := c_remember I.2.1 I.2.2.1 (fun i hi => (I.2.2.2.2.2.2.2.2.1 i hi).1) I.2.2.2.2.2.2.1
  obtain ⟨s1, h1, h2, h3⟩ := hF t1 k1 (oz_C_fr I.2.1 I.2.2.1 (fun p p1 p2 => k3.1 p (by omega))) k3
  refine Or.inl ⟨v, s1, h1, fun x hx => ?_⟩
  obtain ⟨x1, x2, x3, x4⟩ := oz_actI I V' e1 e2 e3 k2 k3 (k4 11 (by omega) (by omega)) h2 h3 hx
  obtain ⟨t, g1, g2, g3, g4, g5⟩ := hG x x2 x3
  refine ⟨oz_md t a', by rw [x1]; exact g1, by rw [oz_md_o (by omega)]; exact g2, ?_, x4 t g3 g4 g5⟩
  exact g4.2
/-- the model's side: remember after the sign of no fault -/
theorem oz_rem0 (P : oz_PM s n E) : ∃ t, f_Mod_remembers (oz_md (lf_w s 389 0 (nI 0)) a) = some (oz_md t a) ∧ t.1 389 0 = nI 0 ∧ oz_PM t (oz_pn n) (oz_pE E n a) ∧ oz_fr (fun p => p = 389 ∨ p = 393) s t ∧ ∀ j, j ≠ 0 → j ≠ 6 → t.1 389 j = s.1 389 j := by
  have P1 : oz_PM (lf_w s 389 0 (nI 0)) n E := oz_PM_fr P (oz_w_n (by omega)) (oz_w_o (by omega))
  obtain ⟨t, k1, k2, k3, k4⟩ := m_remembers (a := a) P1
  exact ⟨t, k1, by rw [k4 0 (by omega)]; exact oz_w_s, k2, oz_fr_tr (oz_fr_w (by omega)) k3, fun j j1 j2 => by rw [k4 j j2, oz_w_n j1]⟩
theorem oz_sets0 (P : oz_PM s n E) {k v : Nat} (hk : k < 766) : ∃ t, f_Mod_sets (nI k) (nI v) (oz_md (lf_w s 389 0 (nI 0)) a) = some (nI (a k), oz_md t (oz_up a k v)) ∧ t.1 389 0 = nI 0 ∧ oz_PM t (oz_pn n) (oz_pE E n a) ∧ oz_fr (fun p => p = 389 ∨ p = 393) s t ∧ ∀ j, j ≠ 0 → j ≠ 6 → t.1 389 j = s.1 389 j := by
  obtain ⟨t, k1, k2, k3, k4, k5⟩ := oz_rem0 (s := s) (a := a) P
  refine ⟨t, ?_, k2, k3, k4, k5⟩
  unfold f_Mod_sets
  rw [k1, Option.bind_some, oz_ck hk (by omega)]
  simp only [lf_lt]
  rw [oz_ck hk (by omega), oz_md_w]
  rfl
theorem oz_up_cm {k l v w : Nat} (h : k ≠ l) : oz_up (oz_up a k v) l w = oz_up (oz_up a l w) k v := by
  funext j
  unfold oz_up
  by_cases c1 : j = l
  · rw [if_pos c1, if_neg (by omega), if_pos c1]
  · rw [if_neg c1]
    by_cases c2 : j = k
    · rw [if_pos c2, if_pos c2]
    · rw [if_neg c2, if_neg c2, if_neg c1]
theorem oz_ps0 : f_Main_needPossible (0 : Int32) s = some (Sum.inl 4, s) := by
  unfold f_Main_needPossible
  exact if_pos rfl
theorem oz_ps1 : f_Main_needPossible (1 : Int32) s = some (Sum.inr (), s) := by
  unfold f_Main_needPossible
  exact if_neg (by decide)
theorem oz_frk {x t : lf_S} (f : oz_fr (fun p => p = 389 ∨ p = 393) x t) : oz_fr (fun p => p = 389 ∨ p = 393 ∨ p = 395) x t := oz_fr_mono f (by omega)
theorem q_buy (I : oz_I s a L n o E T len) (x y : Int32) : oz_An oz_H304 (f_Main_buy x y s) (f_Mod_buy x y) := by
  have V := oz_IV I
  have C := oz_IC I
  have hv := oz_v0 V
  unfold oz_V0 at hv
  rcases oz_isr x 1 6 (by omega) (by omega) with ⟨k, h1, h2, rfl, _⟩ | ⟨h1, _⟩
  · have d1 : f_Mod_isIn (nI k) (1 : Int32) (6 : Int32) = some true := m_isIn_t (l := 1) (h := 6) h1 h2 (by omega)
    rcases oz_isr y 1 999 (by omega) (by omega) with ⟨m, m1, m2, rfl, _⟩ | ⟨m1, _⟩
    · have d2 : f_Mod_isIn (nI m) (1 : Int32) (999 : Int32) = some true := m_isIn_t (l := 1) (h := 999) m1 m2 (by omega)
      have c2 : f_Main_needWithin (nI m) (1 : Int32) (999 : Int32) s = some (Sum.inr (), s) := c_needWithin_t (l := 1) (h := 999) m1 m2 (by omega)
      have hkm : k * m ≤ 6 * 999 := Nat.mul_le_mul h2 m2
      have hst := oz_v5 V h1 h2
      by_cases c : a 8 < k * m
      · refine oz_ql I (e := 4) (k := 3) (s1 := s) ?_ oz_kp_rf rfl (by omega) (by omega) (fun z Ix => ?_)
        · unfold f_Main_buy
          rw [c_needFeet_t h1 h2, oz_tb_r, c2, oz_tb_r, oz_C0_8 C.1, pk_mul, if_pos (by rw [oz_lt_t c (by omega)]; trivial), oz_ps0, oz_tb_l]
        · unfold f_Mod_buy
          rw [oz_bt d1, oz_bt d2, pl_8, oz_ck (by omega) (by omega), oz_md_r, pk_mul, if_pos (by rw [oz_lt_t c (by omega)]; trivial), oz_th3]
      · by_cases c5 : 9999 < oz_sto a k + m
        · refine oz_ql I (e := 4) (k := 3) (s1 := s) ?_ oz_kp_rf rfl (by omega) (by omega) (fun z Ix => ?_)
          · unfold f_Main_buy
            rw [c_needFeet_t h1 h2, oz_tb_r, c2, oz_tb_r, oz_C0_8 C.1, pk_mul, if_neg (by rw [oz_lt_f (by omega) (by omega)]; exact id), oz_ck (by omega) (by omega), oz_C_S C k h1 h2, nI_add, pl_9999, if_pos (by rw [oz_lt_t c5 (by omega)]; trivial), oz_ps0, oz_tb_l]
          · unfold f_Mod_buy
            rw [oz_bt d1, oz_bt d2, pl_8, oz_ck (by omega) (by omega), oz_md_r, pk_mul, if_neg (by rw [oz_lt_f (by omega) (by omega)]; exact id), m_stored h1 h2, Option.bind_some, nI_add, pl_9999, if_neg (by rw [oz_le_f (by omega) (by omega)]; exact id), oz_th3]
        · have V1 : oz_V (oz_up a 8 (a 8 - k * m)) := oz_V_up V (by omega)
          have V2 : oz_V (oz_up (oz_up a 8 (a 8 - k * m)) (37 + k - 1) (oz_sto a k + m)) := oz_V_sto V1 h1 h2 (by omega)
          have e8 : oz_sto (oz_up a 8 (a 8 - k * m)) k = oz_sto a k := oz_up_n (by omega)
          refine oz_act I (v := nI (a 8 - k * m)) V2 (by rw [oz_up_n (by omega), oz_up_n (by omega)]) (by rw [oz_up_n (by omega), oz_up_n (by omega)]) (fun j hj => by rw [oz_up_n (by omega), oz_up_n (by omega)]) (fun t1 k1 k2 k3 => ?_) (fun z Pz _ => ?_)
          · have C1 := oz_C_num V k2 (k := 8) (i := 8) (v := a 8 - k * m) (by omega)
            have C2 := oz_C_sto V1 C1 (f := k) (v := oz_sto a k + m) h1 h2
            refine ⟨_, ?_, C2, oz_fr_tr (oz_fr_w (by omega)) (oz_fr_w (by omega))⟩
            unfold f_Main_buy
            rw [c_needFeet_t h1 h2, oz_tb_r, c2, oz_tb_r, oz_C0_8 C.1, pk_mul, if_neg (by rw [oz_lt_f (by omega) (by omega)]; exact id), oz_ck (by omega) (by omega), oz_C_S C k h1 h2, nI_add, pl_9999, if_neg (by rw [oz_lt_f (by omega) (by omega)]; exact id), oz_ps1, oz_tb_r, k1, Option.bind_some, oz_C0_8 k2.1, oz_sub (by omega)]
            simp only [lf_lt]
            rw [oz_ck (by omega) (by omega), oz_ck (by omega) (by omega), oz_C_S C1 k h1 h2, e8, nI_add, oz_w_o (by omega), oz_w_s]
          · obtain ⟨t, g1, g2, g3, g4, g5⟩ := oz_sets0 (a := a) Pz (k := 8) (v := a 8 - k * m) (by omega)
            refine ⟨t, ?_, g2, g3, oz_frk g4, fun j hj => g5 j (by omega) (by omega)⟩
            unfold f_Mod_buy
            rw [oz_bt d1, oz_bt d2, pl_8, oz_ck (by omega) (by omega), oz_md_r, pk_mul, if_neg (by rw [oz_lt_f (by omega) (by omega)]; exact id), m_stored h1 h2, Option.bind_some, nI_add, pl_9999, if_pos (by rw [oz_le_t (by omega) (by omega)]; trivial), oz_th0, oz_ck (by omega) (by omega), oz_md_r, oz_sub (by omega), g1, Option.bind_some]
            simp only [lf_lt]
            rw [show (37 : Int32) = nI 37 from rfl, nI_add, pl_1, oz_sub (by omega), oz_ck (by omega) (by omega), oz_ck (by omega) (by omega), oz_md_r, show oz_up a 8 (a 8 - k * m) (37 + k - 1) = oz_sto a k from e8, nI_add, oz_md_w, oz_ck (by omega) (by omega), oz_md_r, oz_up_n (by omega), oz_up_s]
    · refine oz_ql I (e := 0) (k := 2) (s1 := s) ?_ oz_kp_rf rfl (by omega) (by omega) (fun z Ix => ?_)
      · unfold f_Main_buy
        rw [c_needFeet_t h1 h2, oz_tb_r, show f_Main_needWithin y (1 : Int32) (999 : Int32) s = some (Sum.inl 0, s) from c_needWithin_f m1, oz_tb_l]
      · unfold f_Mod_buy
        rw [oz_bt d1, oz_bf (show f_Mod_isIn y (1 : Int32) (999 : Int32) = some false from m_isIn_o m1), oz_th2]
  · refine oz_ql I (e := 3) (k := 1) (s1 := s) ?_ oz_kp_rf rfl (by omega) (by omega) (fun z Ix => ?_)
    · unfold f_Main_buy
      rw [c_needFeet_f h1, oz_tb_l]
    · unfold f_Mod_buy
      rw [oz_bf (show f_Mod_isIn x (1 : Int32) (6 : Int32) = some false from m_isIn_o h1), oz_th1]
end
