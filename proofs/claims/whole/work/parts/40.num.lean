/-! ===== numbers and the model's row, for the pure part ===== -/
theorem pl_0 : (0 : Int32) = nI 0 := rfl
theorem pl_1 : (1 : Int32) = nI 1 := rfl
theorem pl_2 : (2 : Int32) = nI 2 := rfl
theorem pl_3 : (3 : Int32) = nI 3 := rfl
theorem pl_4 : (4 : Int32) = nI 4 := rfl
theorem pl_5 : (5 : Int32) = nI 5 := rfl
theorem pl_6 : (6 : Int32) = nI 6 := rfl
theorem pl_7 : (7 : Int32) = nI 7 := rfl
theorem pl_8 : (8 : Int32) = nI 8 := rfl
theorem pl_9 : (9 : Int32) = nI 9 := rfl
theorem pl_10 : (10 : Int32) = nI 10 := rfl
theorem pl_11 : (11 : Int32) = nI 11 := rfl
theorem pl_12 : (12 : Int32) = nI 12 := rfl
theorem pl_13 : (13 : Int32) = nI 13 := rfl
theorem pl_14 : (14 : Int32) = nI 14 := rfl
theorem pl_15 : (15 : Int32) = nI 15 := rfl
theorem pl_16 : (16 : Int32) = nI 16 := rfl
theorem pl_17 : (17 : Int32) = nI 17 := rfl
theorem pl_18 : (18 : Int32) = nI 18 := rfl
theorem pl_19 : (19 : Int32) = nI 19 := rfl
theorem pl_20 : (20 : Int32) = nI 20 := rfl
theorem pl_21 : (21 : Int32) = nI 21 := rfl
theorem pl_22 : (22 : Int32) = nI 22 := rfl
theorem pl_23 : (23 : Int32) = nI 23 := rfl
theorem pl_24 : (24 : Int32) = nI 24 := rfl
theorem pl_25 : (25 : Int32) = nI 25 := rfl
theorem pl_26 : (26 : Int32) = nI 26 := rfl
theorem pl_27 : (27 : Int32) = nI 27 := rfl
theorem pl_28 : (28 : Int32) = nI 28 := rfl
theorem pl_29 : (29 : Int32) = nI 29 := rfl
theorem pl_30 : (30 : Int32) = nI 30 := rfl
theorem pl_31 : (31 : Int32) = nI 31 := rfl
theorem pl_32 : (32 : Int32) = nI 32 := rfl
theorem pl_33 : (33 : Int32) = nI 33 := rfl
theorem pl_34 : (34 : Int32) = nI 34 := rfl
theorem pl_35 : (35 : Int32) = nI 35 := rfl
theorem pl_36 : (36 : Int32) = nI 36 := rfl
theorem pl_37 : (37 : Int32) = nI 37 := rfl
theorem pl_38 : (38 : Int32) = nI 38 := rfl
theorem pl_39 : (39 : Int32) = nI 39 := rfl
theorem pl_40 : (40 : Int32) = nI 40 := rfl
theorem pl_41 : (41 : Int32) = nI 41 := rfl
theorem pl_42 : (42 : Int32) = nI 42 := rfl
theorem pl_43 : (43 : Int32) = nI 43 := rfl
theorem pl_44 : (44 : Int32) = nI 44 := rfl
theorem pl_45 : (45 : Int32) = nI 45 := rfl
theorem pl_46 : (46 : Int32) = nI 46 := rfl
theorem pl_47 : (47 : Int32) = nI 47 := rfl
theorem pl_48 : (48 : Int32) = nI 48 := rfl
theorem pl_49 : (49 : Int32) = nI 49 := rfl
theorem pl_50 : (50 : Int32) = nI 50 := rfl
theorem pl_51 : (51 : Int32) = nI 51 := rfl
theorem pl_52 : (52 : Int32) = nI 52 := rfl
theorem pl_53 : (53 : Int32) = nI 53 := rfl
theorem pl_54 : (54 : Int32) = nI 54 := rfl
theorem pl_55 : (55 : Int32) = nI 55 := rfl
theorem pl_56 : (56 : Int32) = nI 56 := rfl
theorem pl_57 : (57 : Int32) = nI 57 := rfl
theorem pl_58 : (58 : Int32) = nI 58 := rfl
theorem pl_59 : (59 : Int32) = nI 59 := rfl
theorem pl_60 : (60 : Int32) = nI 60 := rfl
theorem pl_61 : (61 : Int32) = nI 61 := rfl
theorem pl_62 : (62 : Int32) = nI 62 := rfl
theorem pl_63 : (63 : Int32) = nI 63 := rfl
theorem pl_64 : (64 : Int32) = nI 64 := rfl
theorem pl_65 : (65 : Int32) = nI 65 := rfl
theorem pl_66 : (66 : Int32) = nI 66 := rfl
theorem pl_67 : (67 : Int32) = nI 67 := rfl
theorem pl_68 : (68 : Int32) = nI 68 := rfl
theorem pl_69 : (69 : Int32) = nI 69 := rfl
theorem pl_70 : (70 : Int32) = nI 70 := rfl
theorem pl_71 : (71 : Int32) = nI 71 := rfl
theorem pl_72 : (72 : Int32) = nI 72 := rfl
theorem pl_73 : (73 : Int32) = nI 73 := rfl
theorem pl_74 : (74 : Int32) = nI 74 := rfl
theorem pl_75 : (75 : Int32) = nI 75 := rfl
theorem pl_76 : (76 : Int32) = nI 76 := rfl
theorem pl_77 : (77 : Int32) = nI 77 := rfl
theorem pl_78 : (78 : Int32) = nI 78 := rfl
theorem pl_79 : (79 : Int32) = nI 79 := rfl
theorem pl_80 : (80 : Int32) = nI 80 := rfl
theorem pl_81 : (81 : Int32) = nI 81 := rfl
theorem pl_82 : (82 : Int32) = nI 82 := rfl
theorem pl_83 : (83 : Int32) = nI 83 := rfl
theorem pl_84 : (84 : Int32) = nI 84 := rfl
theorem pl_85 : (85 : Int32) = nI 85 := rfl
theorem pl_86 : (86 : Int32) = nI 86 := rfl
theorem pl_87 : (87 : Int32) = nI 87 := rfl
theorem pl_88 : (88 : Int32) = nI 88 := rfl
theorem pl_89 : (89 : Int32) = nI 89 := rfl
theorem pl_90 : (90 : Int32) = nI 90 := rfl
theorem pl_91 : (91 : Int32) = nI 91 := rfl
theorem pl_92 : (92 : Int32) = nI 92 := rfl
theorem pl_93 : (93 : Int32) = nI 93 := rfl
theorem pl_94 : (94 : Int32) = nI 94 := rfl
theorem pl_95 : (95 : Int32) = nI 95 := rfl
theorem pl_96 : (96 : Int32) = nI 96 := rfl
theorem pl_97 : (97 : Int32) = nI 97 := rfl
theorem pl_98 : (98 : Int32) = nI 98 := rfl
theorem pl_99 : (99 : Int32) = nI 99 := rfl
theorem pl_100 : (100 : Int32) = nI 100 := rfl
theorem pl_101 : (101 : Int32) = nI 101 := rfl
theorem pl_102 : (102 : Int32) = nI 102 := rfl
theorem pl_103 : (103 : Int32) = nI 103 := rfl
theorem pl_104 : (104 : Int32) = nI 104 := rfl
theorem pl_105 : (105 : Int32) = nI 105 := rfl
theorem pl_106 : (106 : Int32) = nI 106 := rfl
theorem pl_107 : (107 : Int32) = nI 107 := rfl
theorem pl_108 : (108 : Int32) = nI 108 := rfl
theorem pl_109 : (109 : Int32) = nI 109 := rfl
theorem pl_110 : (110 : Int32) = nI 110 := rfl
theorem pl_111 : (111 : Int32) = nI 111 := rfl
theorem pl_112 : (112 : Int32) = nI 112 := rfl
theorem pl_113 : (113 : Int32) = nI 113 := rfl
theorem pl_114 : (114 : Int32) = nI 114 := rfl
theorem pl_115 : (115 : Int32) = nI 115 := rfl
theorem pl_116 : (116 : Int32) = nI 116 := rfl
theorem pl_117 : (117 : Int32) = nI 117 := rfl
theorem pl_118 : (118 : Int32) = nI 118 := rfl
theorem pl_119 : (119 : Int32) = nI 119 := rfl
theorem pl_120 : (120 : Int32) = nI 120 := rfl
theorem pl_121 : (121 : Int32) = nI 121 := rfl
theorem pl_122 : (122 : Int32) = nI 122 := rfl
theorem pl_123 : (123 : Int32) = nI 123 := rfl
theorem pl_124 : (124 : Int32) = nI 124 := rfl
theorem pl_125 : (125 : Int32) = nI 125 := rfl
theorem pl_126 : (126 : Int32) = nI 126 := rfl
theorem pl_127 : (127 : Int32) = nI 127 := rfl
theorem pl_128 : (128 : Int32) = nI 128 := rfl
theorem pl_129 : (129 : Int32) = nI 129 := rfl
theorem pl_130 : (130 : Int32) = nI 130 := rfl
theorem pl_131 : (131 : Int32) = nI 131 := rfl
theorem pl_236 : (236 : Int32) = nI 236 := rfl
theorem pl_239 : (239 : Int32) = nI 239 := rfl
theorem pl_240 : (240 : Int32) = nI 240 := rfl
theorem pl_255 : (255 : Int32) = nI 255 := rfl
theorem pl_366 : (366 : Int32) = nI 366 := rfl
theorem pl_384 : (384 : Int32) = nI 384 := rfl
theorem pl_400 : (400 : Int32) = nI 400 := rfl
theorem pl_450 : (450 : Int32) = nI 450 := rfl
theorem pl_766 : (766 : Int32) = nI 766 := rfl
theorem pl_999 : (999 : Int32) = nI 999 := rfl
theorem pl_1000 : (1000 : Int32) = nI 1000 := rfl
theorem pl_1001 : (1001 : Int32) = nI 1001 := rfl
theorem pl_1002 : (1002 : Int32) = nI 1002 := rfl
theorem pl_1003 : (1003 : Int32) = nI 1003 := rfl
theorem pl_1004 : (1004 : Int32) = nI 1004 := rfl
theorem pl_1005 : (1005 : Int32) = nI 1005 := rfl
theorem pl_1006 : (1006 : Int32) = nI 1006 := rfl
theorem pl_1007 : (1007 : Int32) = nI 1007 := rfl
theorem pl_1008 : (1008 : Int32) = nI 1008 := rfl
theorem pl_1009 : (1009 : Int32) = nI 1009 := rfl
theorem pl_1010 : (1010 : Int32) = nI 1010 := rfl
theorem pl_1011 : (1011 : Int32) = nI 1011 := rfl
theorem pl_1012 : (1012 : Int32) = nI 1012 := rfl
theorem pl_1013 : (1013 : Int32) = nI 1013 := rfl
theorem pl_1014 : (1014 : Int32) = nI 1014 := rfl
theorem pl_1015 : (1015 : Int32) = nI 1015 := rfl
theorem pl_4026 : (4026 : Int32) = nI 4026 := rfl
theorem pl_4392 : (4392 : Int32) = nI 4392 := rfl
theorem pl_9999 : (9999 : Int32) = nI 9999 := rfl
theorem pl_10000 : (10000 : Int32) = nI 10000 := rfl
theorem pl_12345 : (12345 : Int32) = nI 12345 := rfl
theorem pl_32767 : (32767 : Int32) = nI 32767 := rfl
theorem pl_2000000000 : (2000000000 : Int32) = nI 2000000000 := rfl
theorem pl_1431655765 : (1431655765 : Int32) = nI 1431655765 := rfl
theorem pl_858993459 : (858993459 : Int32) = nI 858993459 := rfl
theorem pl_252645135 : (252645135 : Int32) = nI 252645135 := rfl
theorem pl_1103515245 : (1103515245 : Int32) = nI 1103515245 := rfl
theorem oz_sub {a b : Nat} (h : b ≤ a) : nI a - nI b = nI (a - b) := pk_sub h
theorem oz_div {a d : Nat} (ha : a < 2147483648) (h0 : 0 < d) (hd : d < 2147483648) : nI a / nI d = nI (a / d) := pk_div ha h0 hd
theorem oz_ti {a : Nat} (h : a < 2147483648) : (nI a).toInt = (a : Int) := nI_toInt h
theorem oz_mod {a d : Nat} (ha : a < 2147483648) (h0 : 0 < d) (hd : d < 2147483648) : nI a % nI d = nI (a % d) := by
  apply Int32.toInt_inj.mp
  have h1 : a % d < d := Nat.mod_lt _ h0
  rw [Int32.toInt_mod, oz_ti ha, oz_ti hd, oz_ti (by omega)]
  exact (Int.ofNat_tmod a d).symm
theorem oz_ck {α : Type} {a n : Nat} {A : Nat → Option α} (h : a < n) (hn : n < 2147483648) : lf_ck (nI a) n A = A a := by
  unfold lf_ck
  rw [if_neg (nI_in h hn), nI_clamp (by omega)]
theorem oz_nz {α : Type} {a : Nat} {A : Option α} (h0 : 0 < a) (h : a < 2147483648) : lf_nz (nI a) A = A := by
  unfold lf_nz
  rw [if_neg (nI_ne0 h0 h)]
theorem oz_le {a b : Nat} (ha : a < 2147483648) (hb : b < 2147483648) : (nI a ≤ nI b) = (a ≤ b) := propext (nI_leI ha hb)
theorem oz_lt {a b : Nat} (ha : a < 2147483648) (hb : b < 2147483648) : (nI a < nI b) = (a < b) := propext (nI_ltI ha hb)
theorem oz_eq {a b : Nat} (ha : a < 2147483648) (hb : b < 2147483648) : (nI a = nI b) = (a = b) := propext (nI_eq ha hb)
theorem oz_le_t {a b : Nat} (h : a ≤ b) (hb : b < 2147483648) : (nI a ≤ nI b) = True := by rw [oz_le (by omega) hb]; exact eq_true h
theorem oz_le_f {a b : Nat} (h : b < a) (ha : a < 2147483648) : (nI a ≤ nI b) = False := by rw [oz_le ha (by omega)]; exact eq_false (by omega)
theorem oz_lt_t {a b : Nat} (h : a < b) (hb : b < 2147483648) : (nI a < nI b) = True := by rw [oz_lt (by omega) hb]; exact eq_true h
theorem oz_lt_f {a b : Nat} (h : b ≤ a) (ha : a < 2147483648) : (nI a < nI b) = False := by rw [oz_lt ha (by omega)]; exact eq_false (by omega)
theorem oz_eq_t {a b : Nat} (h : a = b) : (nI a = nI b) = True := eq_true (by rw [h])
theorem oz_eq_f {a b : Nat} (h : a ≠ b) (ha : a < 2147483648) (hb : b < 2147483648) : (nI a = nI b) = False := by rw [oz_eq ha hb]; exact eq_false h
def oz_N : Int32 := -1
theorem oz_neg1 : -nI 1 = oz_N := by decide +kernel
theorem oz_m1_ti : oz_N.toInt = -1 := by decide +kernel
theorem oz_addm1 {a : Nat} (h : 1 ≤ a) : nI a + oz_N = nI (a - 1) := sb_m1 h
theorem oz_eqm1 {a : Nat} (ha : a < 2147483648) : (nI a = oz_N) = False := eq_false (fun h => by
  have h1 := congrArg Int32.toInt h
  rw [oz_ti ha, oz_m1_ti] at h1
  omega)
theorem oz_m1eq {a : Nat} (ha : a < 2147483648) : (oz_N = nI a) = False := eq_false (fun h => by
  have h1 := congrArg Int32.toInt h
  rw [oz_ti ha, oz_m1_ti] at h1
  omega)
theorem oz_m1lt {a : Nat} (ha : a < 2147483648) : (oz_N < nI a) = True := eq_true (by
  rw [Int32.lt_iff_toInt_lt, oz_ti ha, oz_m1_ti]; omega)
theorem oz_m1le {a : Nat} (ha : a < 2147483648) : (oz_N ≤ nI a) = True := eq_true (by
  rw [Int32.le_iff_toInt_le, oz_ti ha, oz_m1_ti]; omega)
theorem oz_ltm1 {a : Nat} (ha : a < 2147483648) : (nI a < oz_N) = False := eq_false (by
  rw [Int32.lt_iff_toInt_lt, oz_ti ha, oz_m1_ti]; omega)
theorem oz_lem1 {a : Nat} (ha : a < 2147483648) : (nI a ≤ oz_N) = False := eq_false (by
  rw [Int32.le_iff_toInt_le, oz_ti ha, oz_m1_ti]; omega)
theorem oz_ilt_t {α : Sort _} {a b : Nat} {x y : α} [Decidable (nI a < nI b)] (h : a < b) (hb : b < 2147483648) : (if nI a < nI b then x else y) = x := if_pos (of_eq_true (oz_lt_t h hb))
theorem oz_ilt_f {α : Sort _} {a b : Nat} {x y : α} [Decidable (nI a < nI b)] (h : b ≤ a) (ha : a < 2147483648) : (if nI a < nI b then x else y) = y := if_neg (of_eq_false (oz_lt_f h ha))
theorem oz_ile_t {α : Sort _} {a b : Nat} {x y : α} [Decidable (nI a ≤ nI b)] (h : a ≤ b) (hb : b < 2147483648) : (if nI a ≤ nI b then x else y) = x := if_pos (of_eq_true (oz_le_t h hb))
theorem oz_ile_f {α : Sort _} {a b : Nat} {x y : α} [Decidable (nI a ≤ nI b)] (h : b < a) (ha : a < 2147483648) : (if nI a ≤ nI b then x else y) = y := if_neg (of_eq_false (oz_le_f h ha))
theorem oz_mx {a b : Nat} (ha : a < 2147483648) (hb : b < 2147483648) : lf_mx (nI a) (nI b) = nI (max a b) := by
  unfold lf_mx
  simp only [oz_lt ha hb]
  by_cases h : a < b
  · rw [if_pos h, Nat.max_eq_right (by omega)]
  · rw [if_neg h, Nat.max_eq_left (by omega)]
theorem oz_mn {a b : Nat} (ha : a < 2147483648) (hb : b < 2147483648) : lf_mn (nI a) (nI b) = nI (min a b) := by
  unfold lf_mn
  simp only [oz_lt hb ha]
  by_cases h : b < a
  · rw [if_pos h, Nat.min_eq_right (by omega)]
  · rw [if_neg h, Nat.min_eq_left (by omega)]
-- every int is some nI
theorem oz_all (x : Int32) : x = nI x.toBitVec.toNat := by
  apply Int32.toBitVec_inj.mp
  apply BitVec.eq_of_toNat_eq
  rw [pk_tn x.toBitVec.isLt]
theorem oz_inj {a b : Nat} (ha : a < 4294967296) (hb : b < 4294967296) (h : nI a = nI b) : a = b := by
  have h1 := congrArg (fun x : Int32 => x.toBitVec.toNat) h
  rwa [pk_tn ha, pk_tn hb] at h1
/-! the model's row of numbers: cell 390 -/
def oz_na (a : Nat → Nat) : Nat → Int32 := fun i => nI (a i)
def oz_up (a : Nat → Nat) (k v : Nat) : Nat → Nat := fun j => if j = k then v else a j
def oz_md (s : lf_S) (a : Nat → Nat) : lf_S := (fun p => if p = 390 then oz_na a else s.1 p, s.2)
theorem oz_md_r {s : lf_S} {a : Nat → Nat} {i : Nat} : (oz_md s a).1 390 i = nI (a i) := rfl
theorem oz_md_o {s : lf_S} {a : Nat → Nat} {p : Nat} (h : p ≠ 390) : (oz_md s a).1 p = s.1 p := if_neg h
theorem oz_md_2 {s : lf_S} {a : Nat → Nat} : (oz_md s a).2 = s.2 := rfl
theorem oz_na_up {a : Nat → Nat} {k v : Nat} : upd (oz_na a) k (nI v) = oz_na (oz_up a k v) := by
  funext j
  unfold upd oz_na oz_up
  by_cases h : j = k
  · rw [if_pos h, if_pos h]
  · rw [if_neg h, if_neg h]
theorem oz_S_ext {s t : lf_S} (h : ∀ p, s.1 p = t.1 p) (h2 : s.2 = t.2) : s = t := Prod.ext (funext h) h2
theorem oz_md_w {s : lf_S} {a : Nat → Nat} {k v : Nat} : lf_w (oz_md s a) 390 k (nI v) = oz_md s (oz_up a k v) := by
  refine oz_S_ext (fun p => ?_) rfl
  by_cases h : p = 390
  · subst h
    show upd (oz_na a) k (nI v) = oz_na (oz_up a k v)
    exact oz_na_up
  · show (if p = 390 then _ else (oz_md s a).1 p) = (if p = 390 then _ else s.1 p)
    rw [if_neg h, if_neg h]
    exact oz_md_o h
theorem oz_md_wo {s : lf_S} {a : Nat → Nat} {p k : Nat} {v : Int32} (h : p ≠ 390) : lf_w (oz_md s a) p k v = oz_md (lf_w s p k v) a := by
  refine oz_S_ext (fun q => ?_) rfl
  show (if q = p then upd ((oz_md s a).1 p) k v else (oz_md s a).1 q) = (if q = 390 then oz_na a else if q = p then upd (s.1 p) k v else s.1 q)
  rw [oz_md_o h]
  by_cases c : q = p
  · subst c
    rw [if_pos rfl, if_neg h, if_pos rfl]
  · rw [if_neg c, if_neg c]; rfl
theorem oz_md_md {s : lf_S} {a b : Nat → Nat} : oz_md (oz_md s a) b = oz_md s b := by
  refine oz_S_ext (fun p => ?_) rfl
  show (if p = 390 then _ else (oz_md s a).1 p) = (if p = 390 then _ else s.1 p)
  by_cases h : p = 390
  · rw [if_pos h, if_pos h]
  · rw [if_neg h, if_neg h]; exact oz_md_o h
theorem oz_md_of (s : lf_S) : ∃ a : Nat → Nat, (∀ i, a i < 4294967296) ∧ s = oz_md s a := by
  refine ⟨fun i => (s.1 390 i).toBitVec.toNat, fun i => (s.1 390 i).toBitVec.isLt, oz_S_ext (fun p => ?_) rfl⟩
  by_cases h : p = 390
  · subst h
    funext i
    exact oz_all _
  · exact (oz_md_o h).symm
theorem oz_up_s {a : Nat → Nat} {k v : Nat} : oz_up a k v k = v := if_pos rfl
theorem oz_up_n {a : Nat → Nat} {k j v : Nat} (h : j ≠ k) : oz_up a k v j = a j := if_neg h
/-! loops -/
def oz_it {σ : Type} (f : Nat → σ → σ) : Nat → σ → σ
  | 0, x => x
  | n + 1, x => f n (oz_it f n x)
def oz_sum (f : Nat → Nat) : Nat → Nat
  | 0 => 0
  | n + 1 => oz_sum f n + f n
theorem oz_for_at {σ ρ : Type} {N : Nat} (I : Nat → σ → Prop) (L : Nat → Nat → σ → Option ρ) (f : Nat → σ → σ) (r : σ → ρ) (x0 : σ) (hI0 : I 0 x0)
    (hI : ∀ i x, i < N → I i x → I (i + 1) (f i x)) (h0 : ∀ n x, I N x → L (n + 1) N x = some (r x)) (h1 : ∀ n i x, i < N → I i x → L (n + 1) i x = L n (i + 1) (f i x)) :
    ∀ k i fuel, i + k = N → k < fuel → I i (oz_it f i x0) → L fuel i (oz_it f i x0) = some (r (oz_it f N x0)) ∧ I N (oz_it f N x0) := by
  intro k
  induction k with
  | zero =>
    intro i fuel e hf hi
    obtain rfl : i = N := by omega
    obtain ⟨m, rfl⟩ : ∃ m, fuel = m + 1 := ⟨fuel - 1, by omega⟩
    exact ⟨h0 m _ hi, hi⟩
  | succ k ih =>
    intro i fuel e hf hi
    obtain ⟨m, rfl⟩ : ∃ m, fuel = m + 1 := ⟨fuel - 1, by omega⟩
    rw [h1 m i _ (by omega) hi]
    exact ih (i + 1) m (by omega) (by omega) (hI i _ (by omega) hi)
/-- a loop that counts up, with an invariant -/
theorem oz_forI {σ ρ : Type} {N : Nat} (I : Nat → σ → Prop) (L : Nat → Nat → σ → Option ρ) (f : Nat → σ → σ) (r : σ → ρ) (x0 : σ) (hI0 : I 0 x0)
    (hI : ∀ i x, i < N → I i x → I (i + 1) (f i x)) (h0 : ∀ n x, I N x → L (n + 1) N x = some (r x)) (h1 : ∀ n i x, i < N → I i x → L (n + 1) i x = L n (i + 1) (f i x)) (fuel : Nat) (hf : N < fuel) :
    L fuel 0 x0 = some (r (oz_it f N x0)) ∧ I N (oz_it f N x0) := oz_for_at I L f r x0 hI0 hI h0 h1 N 0 fuel (by omega) hf hI0
/-- without one -/
theorem oz_for {σ ρ : Type} {N : Nat} (L : Nat → Nat → σ → Option ρ) (f : Nat → σ → σ) (r : σ → ρ) (x0 : σ)
    (h0 : ∀ n x, L (n + 1) N x = some (r x)) (h1 : ∀ n i x, i < N → L (n + 1) i x = L n (i + 1) (f i x)) (fuel : Nat) (hf : N < fuel) :
    L fuel 0 x0 = some (r (oz_it f N x0)) := (oz_forI (fun _ _ => True) L f r x0 trivial (fun _ _ _ _ => trivial) (fun n x _ => h0 n x) (fun n i x h _ => h1 n i x h) fuel hf).1
/-- the first i at which P holds, counting up from i0 -/
def oz_fst (P : Nat → Bool) : Nat → Nat → Option Nat
  | _, 0 => none
  | i, k + 1 => if P i then some i else oz_fst P (i + 1) k
theorem oz_search {ρ : Type} {N : Nat} (L : Nat → Nat → Option ρ) (P : Nat → Bool) (y : ρ) (r : Nat → ρ)
    (h0 : ∀ n, L (n + 1) N = some y) (h1 : ∀ n i, i < N → L (n + 1) i = if P i then some (r i) else L n (i + 1)) :
    ∀ k i fuel, i + k = N → k < fuel → L fuel i = some ((oz_fst P i k).elim y r) := by
  intro k
  induction k with
  | zero =>
    intro i fuel e hf
    obtain rfl : i = N := by omega
    obtain ⟨m, rfl⟩ : ∃ m, fuel = m + 1 := ⟨fuel - 1, by omega⟩
    exact h0 m
  | succ k ih =>
    intro i fuel e hf
    obtain ⟨m, rfl⟩ : ∃ m, fuel = m + 1 := ⟨fuel - 1, by omega⟩
    rw [h1 m i (by omega)]
    unfold oz_fst
    cases h : P i with
    | true => rfl
    | false =>
      rw [if_neg (by simp), if_neg (by simp)]
      exact ih (i + 1) m (by omega) (by omega)
theorem oz_it_sum {f : Nat → Nat} {N : Nat} : oz_it (fun i x => x + f i) N 0 = oz_sum f N := by
  induction N with
  | zero => rfl
  | succ n ih => show oz_it (fun i x => x + f i) n 0 + f n = _; rw [ih]; rfl
theorem oz_sum_congr {f g : Nat → Nat} {N : Nat} (h : ∀ i, i < N → f i = g i) : oz_sum f N = oz_sum g N := by
  induction N with
  | zero => rfl
  | succ n ih => show oz_sum f n + f n = oz_sum g n + g n; rw [ih (fun i hi => h i (by omega)), h n (by omega)]
theorem oz_it_congr {σ : Type} {f g : Nat → σ → σ} {N : Nat} {x : σ} (h : ∀ i y, i < N → f i y = g i y) : oz_it f N x = oz_it g N x := by
  induction N with
  | zero => rfl
  | succ n ih => show f n (oz_it f n x) = g n (oz_it g n x); rw [ih (fun i y hi => h i y (by omega)), h n _ (by omega)]
theorem oz_sum_le {f : Nat → Nat} {N B : Nat} (h : ∀ i, i < N → f i ≤ B) : oz_sum f N ≤ N * B := by
  induction N with
  | zero => exact Nat.zero_le _
  | succ n ih =>
    have h1 := ih (fun i hi => h i (by omega))
    have h2 := h n (by omega)
    show oz_sum f n + f n ≤ (n + 1) * B
    rw [Nat.succ_mul]; omega
theorem oz_sum_mono {f : Nat → Nat} {n N : Nat} (h : n ≤ N) : oz_sum f n ≤ oz_sum f N := by
  induction N with
  | zero => rw [Nat.le_zero.mp h]; exact Nat.le_refl _
  | succ m ih =>
    by_cases c : n = m + 1
    · rw [c]; exact Nat.le_refl _
    · exact Nat.le_trans (ih (by omega)) (Nat.le_add_right _ _)
