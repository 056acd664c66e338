/-! ===== the first world (by program, wip/whole/start0.py) ===== -/
theorem ct_Main {sc : Nat × (Nat → Int32)} {d : Nat} : mj_rn sc (d + 3) 2336 [.ref 0] [mj_new 9] true 388 7872 (.inl none) (ct_m tb_Main) true := by
  refine ⟨Nat.le_of_ble_eq_true rfl, rfl, (fun v hv => by cases List.mem_singleton.mp hv; rfl), (fun _ _ e => by cases e), ?_⟩
  refine lf_blk (d := d + 2) B_Main_i0 ?_
  refine ⟨0, rfl, 0, [], rfl, by decide, ?_⟩
  refine ct_obj (P := []) (c := 7) (T := ct_m (tb_Tape 1)) (ci := 9) (f := 0) rfl (fun P' hP => by
    have h := ct_Tape (sc := sc) (d := d + 1) P'
    rw [show P'.length = 1 from hP] at h ⊢
    exact h) rfl rfl (Nat.le_of_ble_eq_true rfl) (fun _ => rfl) (fun _ => rfl) (by decide) (by decide) ?_
  refine ct_obj (P := []) (c := 8) (T := ct_m (tb_Ways 3)) (ci := 9) (f := 1) rfl (fun P' hP => by
    have h := ct_Ways (sc := sc) (d := d + 1) P'
    rw [show P'.length = 3 from hP] at h ⊢
    exact h) rfl rfl (Nat.le_of_ble_eq_true rfl) (fun _ => rfl) (fun _ => rfl) (by decide) (by decide) ?_
  refine ct_obj (P := []) (c := 3) (T := ct_m (tb_Holt 10)) (ci := 9) (f := 2) rfl (fun P' hP => by
    have h := ct_Holt (sc := sc) (d := d) P'
    rw [show P'.length = 10 from hP] at h ⊢
    exact h) rfl rfl (Nat.le_of_ble_eq_true rfl) (fun _ => rfl) (fun _ => rfl) (by decide) (by decide) ?_
  refine ct_obj (P := []) (c := 4) (T := ct_m (tb_Law 34)) (ci := 9) (f := 3) rfl (fun P' hP => by
    have h := ct_Law (sc := sc) (d := d + 1) P'
    rw [show P'.length = 34 from hP] at h ⊢
    exact h) rfl rfl (Nat.le_of_ble_eq_true rfl) (fun _ => rfl) (fun _ => rfl) (by decide) (by decide) ?_
  refine ct_obj (P := []) (c := 3) (T := ct_m (tb_Holt 40)) (ci := 9) (f := 4) rfl (fun P' hP => by
    have h := ct_Holt (sc := sc) (d := d) P'
    rw [show P'.length = 40 from hP] at h ⊢
    exact h) rfl rfl (Nat.le_of_ble_eq_true rfl) (fun _ => rfl) (fun _ => rfl) (by decide) (by decide) ?_
  refine ct_obj (P := []) (c := 4) (T := ct_m (tb_Law 64)) (ci := 9) (f := 5) rfl (fun P' hP => by
    have h := ct_Law (sc := sc) (d := d + 1) P'
    rw [show P'.length = 64 from hP] at h ⊢
    exact h) rfl rfl (Nat.le_of_ble_eq_true rfl) (fun _ => rfl) (fun _ => rfl) (by decide) (by decide) ?_
  refine ct_obj (P := []) (c := 3) (T := ct_m (tb_Holt 70)) (ci := 9) (f := 6) rfl (fun P' hP => by
    have h := ct_Holt (sc := sc) (d := d) P'
    rw [show P'.length = 70 from hP] at h ⊢
    exact h) rfl rfl (Nat.le_of_ble_eq_true rfl) (fun _ => rfl) (fun _ => rfl) (by decide) (by decide) ?_
  refine ct_obj (P := []) (c := 4) (T := ct_m (tb_Law 94)) (ci := 9) (f := 7) rfl (fun P' hP => by
    have h := ct_Law (sc := sc) (d := d + 1) P'
    rw [show P'.length = 94 from hP] at h ⊢
    exact h) rfl rfl (Nat.le_of_ble_eq_true rfl) (fun _ => rfl) (fun _ => rfl) (by decide) (by decide) ?_
  refine ct_anw (P := []) (k := 12) (ci := 9) (f := 8) rfl rfl (by omega) rfl rfl (Nat.le_of_ble_eq_true rfl) (fun _ => rfl) (fun _ => rfl) (by decide) (by decide) ?_
  refine ⟨_, _, rfl, Nat.le_of_ble_eq_true rfl, rfl, ?_⟩
  have hY : ct_m (ct_X :: ct_Y) = ct_c ct_X :: ct_m ct_Y := rfl
  have hl : (ct_m (ct_X :: ct_Y)).length = 100 := by
    unfold ct_m
    rw [List.length_map]
    decide +kernel
  have hh : ct_m tb_Main = ct_m (ct_X :: ct_Y) ++ .inl (3, 12, .inr (.inr (.inr (.inr (ct_g 12))))) :: ct_m (tb_hs 0 12) := by
    rw [ct_gR]
    unfold tb_Main ct_m
    rw [List.map_cons, List.map_append, List.map_cons, List.map_cons]
    rfl
  have hg : ct_g 0 = fun _ => none := by
    funext j
    exact if_neg (by omega)
  have eY : ct_m ct_Y = ((((((((([] : mj_H) ++ ct_m (tb_Tape 1)) ++ ct_m (tb_Ways 3)) ++ ct_m (tb_Holt 10)) ++ ct_m (tb_Law 34)) ++ ct_m (tb_Holt 40)) ++ ct_m (tb_Law 64)) ++ ct_m (tb_Holt 70)) ++ ct_m (tb_Law 94)) := by
    unfold ct_Y ct_m
    simp only [List.map_append, List.map_nil]
  have key : ∀ h rc rs, h = ct_m (ct_X :: ct_Y) ++ .inl (3, 12, .inr (.inr (.inr (.inr (ct_g 0))))) :: [] → 288 ≤ rc → 4716 ≤ rs → lf_wp sc (d + 2) 2336 (fun o1 h1 cl1 => o1 = .inl none ∧ h1 = ct_m tb_Main ∧ cl1 = true) 103 [.ref 0, .int (nI 0)] [] h true rc rs := by
    intro h rc rs e a b
    subst e
    rw [hh]
    exact ct_loop (sc := sc) (d := d) (A := ct_m (ct_X :: ct_Y)) (F := lf_fs ct_X.1.2.2 ct_X.2) (Z := ct_m (tb_hs 0 12)) hl (fun W => rfl) rfl 12 0 [] rc rs (by omega) rfl (by omega) (by omega) (List.nil_append _).symm
  refine key _ _ _ ?_ (by decide) (by decide)
  rw [hg, hY, eY]
  exact congrArg (fun x => x :: _) (show _ = ct_c ct_X from rfl)
def ct_T0 : ct_T := tb_Main ++ (tb_Mod 389 ++ [((2, 1, []), ct_z)])
theorem ct_hp (T : ct_T) : (T.map (·.1)).mapIdx (fun i c => lf_cell c ((T.map (·.2)).getD i ct_z) (fun _ => 0)) = ct_m T := by
  apply List.ext_getElem?
  intro i
  unfold ct_m
  rw [List.getElem?_mapIdx, List.getElem?_map, List.getElem?_map]
  cases h : T[i]? with
  | none => rfl
  | some q =>
    show some (lf_cell q.1 ((T.map (·.2)).getD i ct_z) (fun _ => 0)) = some (ct_c q)
    rw [List.getD_eq_getElem?_getD, List.getElem?_map, h]
    rfl
theorem ct_sh : ct_T0.map (·.1) = lf_sh := by decide +kernel
def oz_s0 : lf_S := (fun p => (ct_T0.map (·.2)).getD p ct_z, fun _ => 0)
theorem ct_hp0 : lf_hp oz_s0 = ct_m ct_T0 := by
  rw [← ct_hp ct_T0, ct_sh]
  rfl
