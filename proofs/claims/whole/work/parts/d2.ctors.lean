/-! ===== the constructors (by program, wip/whole/ctors.py) ===== -/
abbrev ct_T : Type := List (lf_C × (Nat → Int32))
def ct_c (q : lf_C × (Nat → Int32)) : mj_C := lf_cell q.1 q.2 (fun _ => 0)
def ct_m (t : ct_T) : mj_H := t.map ct_c
def ct_z : Nat → Int32 := fun _ => 0
theorem ct_at {X : mj_C} {Y : mj_H} : ∀ P : mj_H, (P ++ X :: Y)[P.length]? = some X
  | [] => rfl
  | _ :: P => ct_at P
theorem ct_set {X X' : mj_C} {Y : mj_H} : ∀ P : mj_H, (P ++ X :: Y).set P.length X' = P ++ X' :: Y
  | [] => rfl
  | p :: P => congrArg (p :: ·) (ct_set P)
theorem ct_len {X : mj_C} {Y P : mj_H} : (P ++ X :: Y).length = P.length + 1 + Y.length := by
  rw [List.length_append, List.length_cons]; omega
theorem ct_ap {X : mj_C} {Y P Z : mj_H} : (P ++ X :: Y) ++ Z = P ++ X :: (Y ++ Z) := by
  rw [List.append_assoc, List.cons_append]
section
variable {sc : Nat × (Nat → Int32)} {d : Nat} {hd : List (Nat × Nat × Nat × Nat)} {J : mj_J} {Q : mj_Q} {p1 p2 p3 p4 p5 ft : Nat} {is : mj_B} {ls : List Value} {P Y : mj_H} {fs : List Value} {rc rs e ci f : Nat}
abbrev ct_b (sc : Nat × (Nat → Int32)) (d : Nat) := mj_b sc mj_tx mj_na (mj_rn sc d)
theorem ct_put {v : Value} (he : e / 64 = ci) (hf : e % 64 = f) (hl : f < fs.length) (hn : narrow (mj_ty ci f) v = v) (ht : fits (mj_ty ci f) v = true) (hp : mj_pl v = true) (kk : ct_b sc d hd J Q is ft ls [] (P ++ .inr (ci, fs.set f v) :: Y) true rc rs) : ct_b sc d hd J Q ((p1, .putfield e) :: is) ft ls [v, .ref P.length] (P ++ .inr (ci, fs) :: Y) true rc rs := by
  subst he hf
  refine ⟨v, P.length, [], fs, rfl, ct_at P, hl, hn, ht, hp, ?_⟩
  rw [ct_set]
  exact kk
theorem ct_int {v : Int} (h0 : ls[0]? = some (.ref P.length)) (he : e / 64 = ci) (hf : e % 64 = f) (hl : f < fs.length) (hn : narrow (mj_ty ci f) (.int (Int32.ofInt v)) = .int (Int32.ofInt v)) (ht : fits (mj_ty ci f) (.int (Int32.ofInt v)) = true) (kk : ct_b sc d hd J Q is ft ls [] (P ++ .inr (ci, fs.set f (.int (Int32.ofInt v))) :: Y) true rc rs) : ct_b sc d hd J Q ((p1, .aload 0) :: (p2, .iconst v) :: (p3, .putfield e) :: is) ft ls [] (P ++ .inr (ci, fs) :: Y) true rc rs := ⟨P.length, h0, ct_put (p1 := p3) he hf hl hn ht rfl kk⟩
theorem ct_arr {v : Int} {k tg : Nat} {t : _} {ct : (Nat → Int32) ⊕ _} (h0 : ls[0]? = some (.ref P.length)) (hv : Int32.ofInt v = nI k) (hk : k < 10000) (htg : (t = .int ∧ tg = 0 ∧ ct = .inl (fun _ => 0)) ∨ (t = .boolean ∧ tg = 1 ∧ ct = .inl (fun _ => 0)) ∨ (t = .long ∧ tg = 2 ∧ ct = .inr (.inl (fun _ => 0)))) (he : e / 64 = ci) (hf : e % 64 = f) (hl : f < fs.length) (hn : ∀ a, narrow (mj_ty ci f) (.ref a) = .ref a) (ht : ∀ a, fits (mj_ty ci f) (.ref a) = true) (hrc : 1 ≤ rc) (hrs : k ≤ rs) (kk : ct_b sc d hd J Q is ft ls [] (P ++ .inr (ci, fs.set f (.ref (P.length + 1 + Y.length))) :: (Y ++ [.inl (tg, k, ct)])) true (rc - 1) (rs - k)) : ct_b sc d hd J Q ((p1, .aload 0) :: (p2, .iconst v) :: (p3, .newarray t) :: (p4, .putfield e) :: is) ft ls [] (P ++ .inr (ci, fs) :: Y) true rc rs := by
  refine ⟨P.length, h0, k, [.ref P.length], tg, ct, by rw [hv], hk, htg, rfl, hrc, hrs, ?_⟩
  rw [ct_ap, ct_len]
  exact ct_put he hf hl (hn _) (ht _) rfl kk
theorem ct_obj {c j dc ds : Nat} {T : mj_H} (h0 : ls[0]? = some (.ref P.length)) (hR : ∀ P' : mj_H, P'.length = P.length + 1 + Y.length → mj_rn sc d j [.ref P'.length] (P' ++ [mj_new c]) true dc ds (.inl none) (P' ++ T) true) (he : e / 64 = ci) (hf : e % 64 = f) (hl : f < fs.length) (hn : ∀ a, narrow (mj_ty ci f) (.ref a) = .ref a) (ht : ∀ a, fits (mj_ty ci f) (.ref a) = true) (hrc : 1 + dc ≤ rc) (hrs : mj_n c + ds ≤ rs) (kk : ct_b sc d hd J Q is ft ls [] (P ++ .inr (ci, fs.set f (.ref (P.length + 1 + Y.length))) :: (Y ++ T)) true (rc - 1 - dc) (rs - mj_n c - ds)) : ct_b sc d hd J Q ((p1, .aload 0) :: (p2, .new c) :: (p3, .dup) :: (p4, .invokespecial j) :: (p5, .putfield e) :: is) ft ls [] (P ++ .inr (ci, fs) :: Y) true rc rs := by
  refine ⟨P.length, h0, rfl, by omega, by omega, ?_⟩
  refine ⟨_, _, rfl, Or.inr ⟨_, rfl⟩, ?_⟩
  have h := hR (P ++ .inr (ci, fs) :: Y) ct_len
  refine ⟨_, _, .inl none, _, true, dc, ds, rfl, (by show (2 : Nat) ≤ 8; decide), by omega, by omega, h, ?_⟩
  show ct_b sc d hd J Q ((p5, .putfield e) :: is) ft ls [.ref (P ++ .inr (ci, fs) :: Y).length, .ref P.length] ((P ++ .inr (ci, fs) :: Y) ++ T) true _ _
  rw [ct_ap, ct_len]
  exact ct_put he hf hl (hn _) (ht _) rfl kk
end
def tb_Tape (b : Nat) : ct_T := ((11, 4, [some (b + 1), none, none, none]), fun k => if k = 2 then Int32.ofInt (-1) else 0) :: ([((0, 400, []), ct_z)])
theorem B_Tape_i0 : mj_bl 40371424 0 = some ([(0, .aload 0), (1, .pop2), (4, .aload 0), (5, .iconst 400), (8, .newarray .int), (10, .putfield 448), (13, .aload 0), (14, .iconst (-1)), (15, .putfield 450), (18, .return_)], 19) := by rfl
theorem ct_Tape {sc : Nat × (Nat → Int32)} {d : Nat} (P : mj_H) : mj_rn sc (d + 1) 40371424 [.ref P.length] (P ++ [mj_new 7]) true 1 400 (.inl none) (P ++ ct_m (tb_Tape P.length)) true := by
  refine ⟨Nat.le_of_ble_eq_true rfl, rfl, (fun v hv => by cases List.mem_singleton.mp hv; rfl), (fun _ _ e => by cases e), ?_⟩
  refine lf_blk (d := d + 0) B_Tape_i0 ?_
  refine ⟨P.length, rfl, P.length, [], rfl, by decide, ?_⟩
  refine ct_arr (k := 400) (tg := 0) (ct := .inl (fun _ => 0)) (ci := 7) (f := 0) rfl rfl (by omega) (Or.inl ⟨rfl, rfl, rfl⟩) rfl rfl (Nat.le_of_ble_eq_true rfl) (fun _ => rfl) (fun _ => rfl) (by decide) (by decide) ?_
  refine ct_int (ci := 7) (f := 2) rfl rfl rfl (Nat.le_of_ble_eq_true rfl) rfl rfl ?_
  exact ⟨rfl, rfl, rfl, rfl⟩
def tb_Ways (b : Nat) : ct_T := ((12, 9, [none, some (b + 1), some (b + 2), some (b + 3), some (b + 4), none, none, some (b + 5), some (b + 6)]), ct_z) :: ([((0, 40, []), ct_z)] ++ [((0, 8, []), ct_z)] ++ [((0, 8, []), ct_z)] ++ [((0, 8, []), ct_z)] ++ [((0, 80, []), ct_z)] ++ [((0, 7, []), ct_z)])
theorem B_Ways_i0 : mj_bl 42337536 0 = some ([(0, .aload 0), (1, .pop2), (4, .aload 0), (5, .iconst 40), (7, .newarray .int), (9, .putfield 513), (12, .aload 0), (13, .iconst 8), (15, .newarray .int), (17, .putfield 514), (20, .aload 0), (21, .iconst 8), (23, .newarray .int), (25, .putfield 515), (28, .aload 0), (29, .iconst 8), (31, .newarray .int), (33, .putfield 516), (36, .aload 0), (37, .iconst 80), (39, .newarray .int), (41, .putfield 519), (44, .aload 0), (45, .iconst 7), (47, .newarray .int), (49, .putfield 520), (52, .return_)], 53) := by rfl
theorem ct_Ways {sc : Nat × (Nat → Int32)} {d : Nat} (P : mj_H) : mj_rn sc (d + 1) 42337536 [.ref P.length] (P ++ [mj_new 8]) true 6 151 (.inl none) (P ++ ct_m (tb_Ways P.length)) true := by
  refine ⟨Nat.le_of_ble_eq_true rfl, rfl, (fun v hv => by cases List.mem_singleton.mp hv; rfl), (fun _ _ e => by cases e), ?_⟩
  refine lf_blk (d := d + 0) B_Ways_i0 ?_
  refine ⟨P.length, rfl, P.length, [], rfl, by decide, ?_⟩
  refine ct_arr (k := 40) (tg := 0) (ct := .inl (fun _ => 0)) (ci := 8) (f := 1) rfl rfl (by omega) (Or.inl ⟨rfl, rfl, rfl⟩) rfl rfl (Nat.le_of_ble_eq_true rfl) (fun _ => rfl) (fun _ => rfl) (by decide) (by decide) ?_
  refine ct_arr (k := 8) (tg := 0) (ct := .inl (fun _ => 0)) (ci := 8) (f := 2) rfl rfl (by omega) (Or.inl ⟨rfl, rfl, rfl⟩) rfl rfl (Nat.le_of_ble_eq_true rfl) (fun _ => rfl) (fun _ => rfl) (by decide) (by decide) ?_
  refine ct_arr (k := 8) (tg := 0) (ct := .inl (fun _ => 0)) (ci := 8) (f := 3) rfl rfl (by omega) (Or.inl ⟨rfl, rfl, rfl⟩) rfl rfl (Nat.le_of_ble_eq_true rfl) (fun _ => rfl) (fun _ => rfl) (by decide) (by decide) ?_
  refine ct_arr (k := 8) (tg := 0) (ct := .inl (fun _ => 0)) (ci := 8) (f := 4) rfl rfl (by omega) (Or.inl ⟨rfl, rfl, rfl⟩) rfl rfl (Nat.le_of_ble_eq_true rfl) (fun _ => rfl) (fun _ => rfl) (by decide) (by decide) ?_
  refine ct_arr (k := 80) (tg := 0) (ct := .inl (fun _ => 0)) (ci := 8) (f := 7) rfl rfl (by omega) (Or.inl ⟨rfl, rfl, rfl⟩) rfl rfl (Nat.le_of_ble_eq_true rfl) (fun _ => rfl) (fun _ => rfl) (by decide) (by decide) ?_
  refine ct_arr (k := 7) (tg := 0) (ct := .inl (fun _ => 0)) (ci := 8) (f := 8) rfl rfl (by omega) (Or.inl ⟨rfl, rfl, rfl⟩) rfl rfl (Nat.le_of_ble_eq_true rfl) (fun _ => rfl) (fun _ => rfl) (by decide) (by decide) ?_
  exact ⟨rfl, rfl, rfl, rfl⟩
def tb_Log (b : Nat) : ct_T := ((9, 2, [none, some (b + 1)]), ct_z) :: ([((0, 240, []), ct_z)])
theorem B_Log_i0 : mj_bl 38798496 0 = some ([(0, .aload 0), (1, .pop2), (4, .aload 0), (5, .iconst 240), (8, .newarray .int), (10, .putfield 321), (13, .return_)], 14) := by rfl
theorem ct_Log {sc : Nat × (Nat → Int32)} {d : Nat} (P : mj_H) : mj_rn sc (d + 1) 38798496 [.ref P.length] (P ++ [mj_new 5]) true 1 240 (.inl none) (P ++ ct_m (tb_Log P.length)) true := by
  refine ⟨Nat.le_of_ble_eq_true rfl, rfl, (fun v hv => by cases List.mem_singleton.mp hv; rfl), (fun _ _ e => by cases e), ?_⟩
  refine lf_blk (d := d + 0) B_Log_i0 ?_
  refine ⟨P.length, rfl, P.length, [], rfl, by decide, ?_⟩
  refine ct_arr (k := 240) (tg := 0) (ct := .inl (fun _ => 0)) (ci := 5) (f := 1) rfl rfl (by omega) (Or.inl ⟨rfl, rfl, rfl⟩) rfl rfl (Nat.le_of_ble_eq_true rfl) (fun _ => rfl) (fun _ => rfl) (by decide) (by decide) ?_
  exact ⟨rfl, rfl, rfl, rfl⟩
def tb_Beds (b : Nat) : ct_T := ((5, 5, [none, some (b + 1), some (b + 2), some (b + 3), some (b + 4)]), ct_z) :: ([((0, 6, []), ct_z)] ++ [((0, 6, []), ct_z)] ++ [((0, 6, []), ct_z)] ++ [((0, 6, []), ct_z)])
theorem B_Beds_i0 : mj_bl 31196192 0 = some ([(0, .aload 0), (1, .pop2), (4, .aload 0), (5, .iconst 6), (7, .newarray .int), (9, .putfield 65), (12, .aload 0), (13, .iconst 6), (15, .newarray .int), (17, .putfield 66), (20, .aload 0), (21, .iconst 6), (23, .newarray .int), (25, .putfield 67), (28, .aload 0), (29, .iconst 6), (31, .newarray .int), (33, .putfield 68), (36, .return_)], 37) := by rfl
theorem ct_Beds {sc : Nat × (Nat → Int32)} {d : Nat} (P : mj_H) : mj_rn sc (d + 1) 31196192 [.ref P.length] (P ++ [mj_new 1]) true 4 24 (.inl none) (P ++ ct_m (tb_Beds P.length)) true := by
  refine ⟨Nat.le_of_ble_eq_true rfl, rfl, (fun v hv => by cases List.mem_singleton.mp hv; rfl), (fun _ _ e => by cases e), ?_⟩
  refine lf_blk (d := d + 0) B_Beds_i0 ?_
  refine ⟨P.length, rfl, P.length, [], rfl, by decide, ?_⟩
  refine ct_arr (k := 6) (tg := 0) (ct := .inl (fun _ => 0)) (ci := 1) (f := 1) rfl rfl (by omega) (Or.inl ⟨rfl, rfl, rfl⟩) rfl rfl (Nat.le_of_ble_eq_true rfl) (fun _ => rfl) (fun _ => rfl) (by decide) (by decide) ?_
  refine ct_arr (k := 6) (tg := 0) (ct := .inl (fun _ => 0)) (ci := 1) (f := 2) rfl rfl (by omega) (Or.inl ⟨rfl, rfl, rfl⟩) rfl rfl (Nat.le_of_ble_eq_true rfl) (fun _ => rfl) (fun _ => rfl) (by decide) (by decide) ?_
  refine ct_arr (k := 6) (tg := 0) (ct := .inl (fun _ => 0)) (ci := 1) (f := 3) rfl rfl (by omega) (Or.inl ⟨rfl, rfl, rfl⟩) rfl rfl (Nat.le_of_ble_eq_true rfl) (fun _ => rfl) (fun _ => rfl) (by decide) (by decide) ?_
  refine ct_arr (k := 6) (tg := 0) (ct := .inl (fun _ => 0)) (ci := 1) (f := 4) rfl rfl (by omega) (Or.inl ⟨rfl, rfl, rfl⟩) rfl rfl (Nat.le_of_ble_eq_true rfl) (fun _ => rfl) (fun _ => rfl) (by decide) (by decide) ?_
  exact ⟨rfl, rfl, rfl, rfl⟩
def tb_Baskets (b : Nat) : ct_T := ((4, 9, [none, some (b + 1), some (b + 2), some (b + 3), some (b + 4), some (b + 5), some (b + 6), some (b + 7), some (b + 8)]), ct_z) :: ([((0, 5, []), ct_z)] ++ [((0, 5, []), ct_z)] ++ [((0, 5, []), ct_z)] ++ [((0, 5, []), ct_z)] ++ [((0, 5, []), ct_z)] ++ [((0, 5, []), ct_z)] ++ [((0, 30, []), ct_z)] ++ [((0, 5, []), ct_z)])
theorem B_Baskets_i0 : mj_bl 28836864 0 = some ([(0, .aload 0), (1, .pop2), (4, .aload 0), (5, .iconst 5), (6, .newarray .int), (8, .putfield 1), (11, .aload 0), (12, .iconst 5), (13, .newarray .int), (15, .putfield 2), (18, .aload 0), (19, .iconst 5), (20, .newarray .int), (22, .putfield 3), (25, .aload 0), (26, .iconst 5), (27, .newarray .int), (29, .putfield 4), (32, .aload 0), (33, .iconst 5), (34, .newarray .int), (36, .putfield 5), (39, .aload 0), (40, .iconst 5), (41, .newarray .int), (43, .putfield 6), (46, .aload 0), (47, .iconst 30), (49, .newarray .int), (51, .putfield 7), (54, .aload 0), (55, .iconst 5), (56, .newarray .int), (58, .putfield 8), (61, .return_)], 62) := by rfl
theorem ct_Baskets {sc : Nat × (Nat → Int32)} {d : Nat} (P : mj_H) : mj_rn sc (d + 1) 28836864 [.ref P.length] (P ++ [mj_new 0]) true 8 65 (.inl none) (P ++ ct_m (tb_Baskets P.length)) true := by
  refine ⟨Nat.le_of_ble_eq_true rfl, rfl, (fun v hv => by cases List.mem_singleton.mp hv; rfl), (fun _ _ e => by cases e), ?_⟩
  refine lf_blk (d := d + 0) B_Baskets_i0 ?_
  refine ⟨P.length, rfl, P.length, [], rfl, by decide, ?_⟩
  refine ct_arr (k := 5) (tg := 0) (ct := .inl (fun _ => 0)) (ci := 0) (f := 1) rfl rfl (by omega) (Or.inl ⟨rfl, rfl, rfl⟩) rfl rfl (Nat.le_of_ble_eq_true rfl) (fun _ => rfl) (fun _ => rfl) (by decide) (by decide) ?_
  refine ct_arr (k := 5) (tg := 0) (ct := .inl (fun _ => 0)) (ci := 0) (f := 2) rfl rfl (by omega) (Or.inl ⟨rfl, rfl, rfl⟩) rfl rfl (Nat.le_of_ble_eq_true rfl) (fun _ => rfl) (fun _ => rfl) (by decide) (by decide) ?_
  refine ct_arr (k := 5) (tg := 0) (ct := .inl (fun _ => 0)) (ci := 0) (f := 3) rfl rfl (by omega) (Or.inl ⟨rfl, rfl, rfl⟩) rfl rfl (Nat.le_of_ble_eq_true rfl) (fun _ => rfl) (fun _ => rfl) (by decide) (by decide) ?_
  refine ct_arr (k := 5) (tg := 0) (ct := .inl (fun _ => 0)) (ci := 0) (f := 4) rfl rfl (by omega) (Or.inl ⟨rfl, rfl, rfl⟩) rfl rfl (Nat.le_of_ble_eq_true rfl) (fun _ => rfl) (fun _ => rfl) (by decide) (by decide) ?_
  refine ct_arr (k := 5) (tg := 0) (ct := .inl (fun _ => 0)) (ci := 0) (f := 5) rfl rfl (by omega) (Or.inl ⟨rfl, rfl, rfl⟩) rfl rfl (Nat.le_of_ble_eq_true rfl) (fun _ => rfl) (fun _ => rfl) (by decide) (by decide) ?_
  refine ct_arr (k := 5) (tg := 0) (ct := .inl (fun _ => 0)) (ci := 0) (f := 6) rfl rfl (by omega) (Or.inl ⟨rfl, rfl, rfl⟩) rfl rfl (Nat.le_of_ble_eq_true rfl) (fun _ => rfl) (fun _ => rfl) (by decide) (by decide) ?_
  refine ct_arr (k := 30) (tg := 0) (ct := .inl (fun _ => 0)) (ci := 0) (f := 7) rfl rfl (by omega) (Or.inl ⟨rfl, rfl, rfl⟩) rfl rfl (Nat.le_of_ble_eq_true rfl) (fun _ => rfl) (fun _ => rfl) (by decide) (by decide) ?_
  refine ct_arr (k := 5) (tg := 0) (ct := .inl (fun _ => 0)) (ci := 0) (f := 8) rfl rfl (by omega) (Or.inl ⟨rfl, rfl, rfl⟩) rfl rfl (Nat.le_of_ble_eq_true rfl) (fun _ => rfl) (fun _ => rfl) (by decide) (by decide) ?_
  exact ⟨rfl, rfl, rfl, rfl⟩
def tb_Hands (b : Nat) : ct_T := ((6, 3, [none, some (b + 1), some (b + 2)]), ct_z) :: ([((0, 5, []), ct_z)] ++ [((0, 5, []), ct_z)])
theorem B_Hands_i0 : mj_bl 32506944 0 = some ([(0, .aload 0), (1, .pop2), (4, .aload 0), (5, .iconst 5), (6, .newarray .int), (8, .putfield 129), (11, .aload 0), (12, .iconst 5), (13, .newarray .int), (15, .putfield 130), (18, .return_)], 19) := by rfl
theorem ct_Hands {sc : Nat × (Nat → Int32)} {d : Nat} (P : mj_H) : mj_rn sc (d + 1) 32506944 [.ref P.length] (P ++ [mj_new 2]) true 2 10 (.inl none) (P ++ ct_m (tb_Hands P.length)) true := by
  refine ⟨Nat.le_of_ble_eq_true rfl, rfl, (fun v hv => by cases List.mem_singleton.mp hv; rfl), (fun _ _ e => by cases e), ?_⟩
  refine lf_blk (d := d + 0) B_Hands_i0 ?_
  refine ⟨P.length, rfl, P.length, [], rfl, by decide, ?_⟩
  refine ct_arr (k := 5) (tg := 0) (ct := .inl (fun _ => 0)) (ci := 2) (f := 1) rfl rfl (by omega) (Or.inl ⟨rfl, rfl, rfl⟩) rfl rfl (Nat.le_of_ble_eq_true rfl) (fun _ => rfl) (fun _ => rfl) (by decide) (by decide) ?_
  refine ct_arr (k := 5) (tg := 0) (ct := .inl (fun _ => 0)) (ci := 2) (f := 2) rfl rfl (by omega) (Or.inl ⟨rfl, rfl, rfl⟩) rfl rfl (Nat.le_of_ble_eq_true rfl) (fun _ => rfl) (fun _ => rfl) (by decide) (by decide) ?_
  exact ⟨rfl, rfl, rfl, rfl⟩
def tb_Orders (b : Nat) : ct_T := ((10, 4, [none, none, some (b + 1), some (b + 2)]), ct_z) :: ([((0, 6, []), ct_z)] ++ [((0, 6, []), ct_z)])
theorem B_Orders_i0 : mj_bl 39716032 0 = some ([(0, .aload 0), (1, .pop2), (4, .aload 0), (5, .iconst 6), (7, .newarray .int), (9, .putfield 386), (12, .aload 0), (13, .iconst 6), (15, .newarray .int), (17, .putfield 387), (20, .return_)], 21) := by rfl
theorem ct_Orders {sc : Nat × (Nat → Int32)} {d : Nat} (P : mj_H) : mj_rn sc (d + 1) 39716032 [.ref P.length] (P ++ [mj_new 6]) true 2 12 (.inl none) (P ++ ct_m (tb_Orders P.length)) true := by
  refine ⟨Nat.le_of_ble_eq_true rfl, rfl, (fun v hv => by cases List.mem_singleton.mp hv; rfl), (fun _ _ e => by cases e), ?_⟩
  refine lf_blk (d := d + 0) B_Orders_i0 ?_
  refine ⟨P.length, rfl, P.length, [], rfl, by decide, ?_⟩
  refine ct_arr (k := 6) (tg := 0) (ct := .inl (fun _ => 0)) (ci := 6) (f := 2) rfl rfl (by omega) (Or.inl ⟨rfl, rfl, rfl⟩) rfl rfl (Nat.le_of_ble_eq_true rfl) (fun _ => rfl) (fun _ => rfl) (by decide) (by decide) ?_
  refine ct_arr (k := 6) (tg := 0) (ct := .inl (fun _ => 0)) (ci := 6) (f := 3) rfl rfl (by omega) (Or.inl ⟨rfl, rfl, rfl⟩) rfl rfl (Nat.le_of_ble_eq_true rfl) (fun _ => rfl) (fun _ => rfl) (by decide) (by decide) ?_
  exact ⟨rfl, rfl, rfl, rfl⟩
def tb_Law (b : Nat) : ct_T := ((8, 7, [none, some (b + 1), some (b + 2), some (b + 3), some (b + 4), none, some (b + 5)]), fun k => if k = 0 then Int32.ofInt (-1) else 0) :: ([((0, 12, []), ct_z)] ++ [((0, 12, []), ct_z)] ++ [((0, 12, []), ct_z)] ++ [((0, 400, []), ct_z)] ++ [((0, 24, []), ct_z)])
theorem B_Law_i0 : mj_bl 36045952 0 = some ([(0, .aload 0), (1, .pop2), (4, .aload 0), (5, .iconst (-1)), (6, .putfield 256), (9, .aload 0), (10, .iconst 12), (12, .newarray .int), (14, .putfield 257), (17, .aload 0), (18, .iconst 12), (20, .newarray .int), (22, .putfield 258), (25, .aload 0), (26, .iconst 12), (28, .newarray .int), (30, .putfield 259), (33, .aload 0), (34, .iconst 400), (37, .newarray .int), (39, .putfield 260), (42, .aload 0), (43, .iconst 24), (45, .newarray .int), (47, .putfield 262), (50, .return_)], 51) := by rfl
theorem ct_Law {sc : Nat × (Nat → Int32)} {d : Nat} (P : mj_H) : mj_rn sc (d + 1) 36045952 [.ref P.length] (P ++ [mj_new 4]) true 5 460 (.inl none) (P ++ ct_m (tb_Law P.length)) true := by
  refine ⟨Nat.le_of_ble_eq_true rfl, rfl, (fun v hv => by cases List.mem_singleton.mp hv; rfl), (fun _ _ e => by cases e), ?_⟩
  refine lf_blk (d := d + 0) B_Law_i0 ?_
  refine ⟨P.length, rfl, P.length, [], rfl, by decide, ?_⟩
  refine ct_int (ci := 4) (f := 0) rfl rfl rfl (Nat.le_of_ble_eq_true rfl) rfl rfl ?_
  refine ct_arr (k := 12) (tg := 0) (ct := .inl (fun _ => 0)) (ci := 4) (f := 1) rfl rfl (by omega) (Or.inl ⟨rfl, rfl, rfl⟩) rfl rfl (Nat.le_of_ble_eq_true rfl) (fun _ => rfl) (fun _ => rfl) (by decide) (by decide) ?_
  refine ct_arr (k := 12) (tg := 0) (ct := .inl (fun _ => 0)) (ci := 4) (f := 2) rfl rfl (by omega) (Or.inl ⟨rfl, rfl, rfl⟩) rfl rfl (Nat.le_of_ble_eq_true rfl) (fun _ => rfl) (fun _ => rfl) (by decide) (by decide) ?_
  refine ct_arr (k := 12) (tg := 0) (ct := .inl (fun _ => 0)) (ci := 4) (f := 3) rfl rfl (by omega) (Or.inl ⟨rfl, rfl, rfl⟩) rfl rfl (Nat.le_of_ble_eq_true rfl) (fun _ => rfl) (fun _ => rfl) (by decide) (by decide) ?_
  refine ct_arr (k := 400) (tg := 0) (ct := .inl (fun _ => 0)) (ci := 4) (f := 4) rfl rfl (by omega) (Or.inl ⟨rfl, rfl, rfl⟩) rfl rfl (Nat.le_of_ble_eq_true rfl) (fun _ => rfl) (fun _ => rfl) (by decide) (by decide) ?_
  refine ct_arr (k := 24) (tg := 0) (ct := .inl (fun _ => 0)) (ci := 4) (f := 6) rfl rfl (by omega) (Or.inl ⟨rfl, rfl, rfl⟩) rfl rfl (Nat.le_of_ble_eq_true rfl) (fun _ => rfl) (fun _ => rfl) (by decide) (by decide) ?_
  exact ⟨rfl, rfl, rfl, rfl⟩
def tb_Holt (b : Nat) : ct_T := ((7, 12, [some (b + 1), some (b + 6), some (b + 15), some (b + 18), some (b + 21), some (b + 23), none, none, none, none, none, none]), fun k => if k = 8 then Int32.ofInt (50) else if k = 10 then Int32.ofInt (1) else 0) :: (tb_Beds (b + 1) ++ tb_Baskets (b + 6) ++ tb_Hands (b + 15) ++ tb_Orders (b + 18) ++ tb_Log (b + 21) ++ [((0, 7, []), ct_z)])
theorem B_Holt_i0 : mj_bl 32900192 0 = some ([(0, .aload 0), (1, .pop2), (4, .aload 0), (5, .new 1), (8, .dup), (9, .invokespecial 31196192), (12, .putfield 192), (15, .aload 0), (16, .new 0), (19, .dup), (20, .invokespecial 28836864), (23, .putfield 193), (26, .aload 0), (27, .new 2), (30, .dup), (31, .invokespecial 32506944), (34, .putfield 194), (37, .aload 0), (38, .new 6), (41, .dup), (42, .invokespecial 39716032), (45, .putfield 195), (48, .aload 0), (49, .new 5), (52, .dup), (53, .invokespecial 38798496), (56, .putfield 196), (59, .aload 0), (60, .iconst 7), (62, .newarray .int), (64, .putfield 197), (67, .aload 0), (68, .iconst 50), (70, .putfield 200), (73, .aload 0), (74, .iconst 1), (75, .putfield 202), (78, .return_)], 79) := by rfl
theorem ct_Holt {sc : Nat × (Nat → Int32)} {d : Nat} (P : mj_H) : mj_rn sc (d + 2) 32900192 [.ref P.length] (P ++ [mj_new 3]) true 23 381 (.inl none) (P ++ ct_m (tb_Holt P.length)) true := by
  refine ⟨Nat.le_of_ble_eq_true rfl, rfl, (fun v hv => by cases List.mem_singleton.mp hv; rfl), (fun _ _ e => by cases e), ?_⟩
  refine lf_blk (d := d + 1) B_Holt_i0 ?_
  refine ⟨P.length, rfl, P.length, [], rfl, by decide, ?_⟩
  refine ct_obj (c := 1) (T := ct_m (tb_Beds (P.length + 1))) (ci := 3) (f := 0) rfl (fun P' hP => by rw [← show P'.length = P.length + 1 from hP]; exact ct_Beds (d := d) P') rfl rfl (Nat.le_of_ble_eq_true rfl) (fun _ => rfl) (fun _ => rfl) (by decide) (by decide) ?_
  refine ct_obj (c := 0) (T := ct_m (tb_Baskets (P.length + 6))) (ci := 3) (f := 1) rfl (fun P' hP => by rw [← show P'.length = P.length + 6 from hP]; exact ct_Baskets (d := d) P') rfl rfl (Nat.le_of_ble_eq_true rfl) (fun _ => rfl) (fun _ => rfl) (by decide) (by decide) ?_
  refine ct_obj (c := 2) (T := ct_m (tb_Hands (P.length + 15))) (ci := 3) (f := 2) rfl (fun P' hP => by rw [← show P'.length = P.length + 15 from hP]; exact ct_Hands (d := d) P') rfl rfl (Nat.le_of_ble_eq_true rfl) (fun _ => rfl) (fun _ => rfl) (by decide) (by decide) ?_
  refine ct_obj (c := 6) (T := ct_m (tb_Orders (P.length + 18))) (ci := 3) (f := 3) rfl (fun P' hP => by rw [← show P'.length = P.length + 18 from hP]; exact ct_Orders (d := d) P') rfl rfl (Nat.le_of_ble_eq_true rfl) (fun _ => rfl) (fun _ => rfl) (by decide) (by decide) ?_
  refine ct_obj (c := 5) (T := ct_m (tb_Log (P.length + 21))) (ci := 3) (f := 4) rfl (fun P' hP => by rw [← show P'.length = P.length + 21 from hP]; exact ct_Log (d := d) P') rfl rfl (Nat.le_of_ble_eq_true rfl) (fun _ => rfl) (fun _ => rfl) (by decide) (by decide) ?_
  refine ct_arr (k := 7) (tg := 0) (ct := .inl (fun _ => 0)) (ci := 3) (f := 5) rfl rfl (by omega) (Or.inl ⟨rfl, rfl, rfl⟩) rfl rfl (Nat.le_of_ble_eq_true rfl) (fun _ => rfl) (fun _ => rfl) (by decide) (by decide) ?_
  refine ct_int (ci := 3) (f := 8) rfl rfl rfl (Nat.le_of_ble_eq_true rfl) rfl rfl ?_
  refine ct_int (ci := 3) (f := 10) rfl rfl rfl (Nat.le_of_ble_eq_true rfl) rfl rfl ?_
  exact ⟨rfl, rfl, rfl, rfl⟩
