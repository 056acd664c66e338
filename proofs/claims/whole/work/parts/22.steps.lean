/-! ===== the world behind the constructors: cells of fixed shapes (by program, wip/whole/steps.py) ===== -/
-- what the cells hold, place by place; the one array of longs
abbrev lf_S : Type := (Nat → Nat → Int32) × (Nat → Int64)
-- kind (0 ints, 1 booleans, 2 longs, 3 holts, 4 and on: an object of that class), length, references
abbrev lf_C : Type := Nat × Nat × List (Option Nat)
def lf_fs (r : List (Option Nat)) (f : Nat → Int32) : List Value := r.mapIdx (fun k x => match x with
  | none => Value.int (f k)
  | some q => Value.ref q)
def lf_cell (c : lf_C) (f : Nat → Int32) (g : Nat → Int64) : mj_C := match c with
  | (0, n, _) => .inl (0, n, .inl f)
  | (1, n, _) => .inl (1, n, .inl f)
  | (2, n, _) => .inl (2, n, .inr (.inl g))
  | (3, n, r) => .inl (3, n, .inr (.inr (.inr (.inr (fun j => r.getD j none)))))
  | (t + 4, _, r) => .inr (t, lf_fs r f)
def lf_sh_0 : List lf_C := [(13, 12, [some 1, some 3, some 10, some 34, some 40, some 64, some 70, some 94, some 100, none, none, none]), (11, 4, [some 2, none, none, none]), (0, 400, []), (12, 9, [none, some 4, some 5, some 6, some 7, none, none, some 8, some 9]), (0, 40, []), (0, 8, []), (0, 8, []), (0, 8, []), (0, 80, []), (0, 7, []), (7, 12, [some 11, some 16, some 25, some 28, some 31, some 33, none, none, none, none, none, none]), (5, 5, [none, some 12, some 13, some 14, some 15]), (0, 6, []), (0, 6, []), (0, 6, []), (0, 6, []), (4, 9, [none, some 17, some 18, some 19, some 20, some 21, some 22, some 23, some 24]), (0, 5, []), (0, 5, []), (0, 5, []), (0, 5, []), (0, 5, []), (0, 5, []), (0, 30, []), (0, 5, []), (6, 3, [none, some 26, some 27]), (0, 5, []), (0, 5, []), (10, 4, [none, none, some 29, some 30]), (0, 6, []), (0, 6, []), (9, 2, [none, some 32]), (0, 240, []), (0, 7, []), (8, 7, [none, some 35, some 36, some 37, some 38, none, some 39]), (0, 12, []), (0, 12, []), (0, 12, []), (0, 400, []), (0, 24, []), (7, 12, [some 41, some 46, some 55, some 58, some 61, some 63, none, none, none, none, none, none]), (5, 5, [none, some 42, some 43, some 44, some 45]), (0, 6, []), (0, 6, []), (0, 6, []), (0, 6, []), (4, 9, [none, some 47, some 48, some 49, some 50, some 51, some 52, some 53, some 54]), (0, 5, []), (0, 5, []), (0, 5, []), (0, 5, []), (0, 5, []), (0, 5, []), (0, 30, []), (0, 5, []), (6, 3, [none, some 56, some 57]), (0, 5, []), (0, 5, []), (10, 4, [none, none, some 59, some 60]), (0, 6, [])]
def lf_sh_1 : List lf_C := [(0, 6, []), (9, 2, [none, some 62]), (0, 240, []), (0, 7, []), (8, 7, [none, some 65, some 66, some 67, some 68, none, some 69]), (0, 12, []), (0, 12, []), (0, 12, []), (0, 400, []), (0, 24, []), (7, 12, [some 71, some 76, some 85, some 88, some 91, some 93, none, none, none, none, none, none]), (5, 5, [none, some 72, some 73, some 74, some 75]), (0, 6, []), (0, 6, []), (0, 6, []), (0, 6, []), (4, 9, [none, some 77, some 78, some 79, some 80, some 81, some 82, some 83, some 84]), (0, 5, []), (0, 5, []), (0, 5, []), (0, 5, []), (0, 5, []), (0, 5, []), (0, 30, []), (0, 5, []), (6, 3, [none, some 86, some 87]), (0, 5, []), (0, 5, []), (10, 4, [none, none, some 89, some 90]), (0, 6, []), (0, 6, []), (9, 2, [none, some 92]), (0, 240, []), (0, 7, []), (8, 7, [none, some 95, some 96, some 97, some 98, none, some 99]), (0, 12, []), (0, 12, []), (0, 12, []), (0, 400, []), (0, 24, []), (3, 12, [some 101, some 125, some 149, some 173, some 197, some 221, some 245, some 269, some 293, some 317, some 341, some 365]), (7, 12, [some 102, some 107, some 116, some 119, some 122, some 124, none, none, none, none, none, none]), (5, 5, [none, some 103, some 104, some 105, some 106]), (0, 6, []), (0, 6, []), (0, 6, []), (0, 6, []), (4, 9, [none, some 108, some 109, some 110, some 111, some 112, some 113, some 114, some 115]), (0, 5, []), (0, 5, []), (0, 5, []), (0, 5, []), (0, 5, []), (0, 5, []), (0, 30, []), (0, 5, []), (6, 3, [none, some 117, some 118]), (0, 5, []), (0, 5, []), (10, 4, [none, none, some 120, some 121])]
def lf_sh_2 : List lf_C := [(0, 6, []), (0, 6, []), (9, 2, [none, some 123]), (0, 240, []), (0, 7, []), (7, 12, [some 126, some 131, some 140, some 143, some 146, some 148, none, none, none, none, none, none]), (5, 5, [none, some 127, some 128, some 129, some 130]), (0, 6, []), (0, 6, []), (0, 6, []), (0, 6, []), (4, 9, [none, some 132, some 133, some 134, some 135, some 136, some 137, some 138, some 139]), (0, 5, []), (0, 5, []), (0, 5, []), (0, 5, []), (0, 5, []), (0, 5, []), (0, 30, []), (0, 5, []), (6, 3, [none, some 141, some 142]), (0, 5, []), (0, 5, []), (10, 4, [none, none, some 144, some 145]), (0, 6, []), (0, 6, []), (9, 2, [none, some 147]), (0, 240, []), (0, 7, []), (7, 12, [some 150, some 155, some 164, some 167, some 170, some 172, none, none, none, none, none, none]), (5, 5, [none, some 151, some 152, some 153, some 154]), (0, 6, []), (0, 6, []), (0, 6, []), (0, 6, []), (4, 9, [none, some 156, some 157, some 158, some 159, some 160, some 161, some 162, some 163]), (0, 5, []), (0, 5, []), (0, 5, []), (0, 5, []), (0, 5, []), (0, 5, []), (0, 30, []), (0, 5, []), (6, 3, [none, some 165, some 166]), (0, 5, []), (0, 5, []), (10, 4, [none, none, some 168, some 169]), (0, 6, []), (0, 6, []), (9, 2, [none, some 171]), (0, 240, []), (0, 7, []), (7, 12, [some 174, some 179, some 188, some 191, some 194, some 196, none, none, none, none, none, none]), (5, 5, [none, some 175, some 176, some 177, some 178]), (0, 6, []), (0, 6, []), (0, 6, []), (0, 6, []), (4, 9, [none, some 180, some 181, some 182, some 183, some 184, some 185, some 186, some 187])]
def lf_sh_3 : List lf_C := [(0, 5, []), (0, 5, []), (0, 5, []), (0, 5, []), (0, 5, []), (0, 5, []), (0, 30, []), (0, 5, []), (6, 3, [none, some 189, some 190]), (0, 5, []), (0, 5, []), (10, 4, [none, none, some 192, some 193]), (0, 6, []), (0, 6, []), (9, 2, [none, some 195]), (0, 240, []), (0, 7, []), (7, 12, [some 198, some 203, some 212, some 215, some 218, some 220, none, none, none, none, none, none]), (5, 5, [none, some 199, some 200, some 201, some 202]), (0, 6, []), (0, 6, []), (0, 6, []), (0, 6, []), (4, 9, [none, some 204, some 205, some 206, some 207, some 208, some 209, some 210, some 211]), (0, 5, []), (0, 5, []), (0, 5, []), (0, 5, []), (0, 5, []), (0, 5, []), (0, 30, []), (0, 5, []), (6, 3, [none, some 213, some 214]), (0, 5, []), (0, 5, []), (10, 4, [none, none, some 216, some 217]), (0, 6, []), (0, 6, []), (9, 2, [none, some 219]), (0, 240, []), (0, 7, []), (7, 12, [some 222, some 227, some 236, some 239, some 242, some 244, none, none, none, none, none, none]), (5, 5, [none, some 223, some 224, some 225, some 226]), (0, 6, []), (0, 6, []), (0, 6, []), (0, 6, []), (4, 9, [none, some 228, some 229, some 230, some 231, some 232, some 233, some 234, some 235]), (0, 5, []), (0, 5, []), (0, 5, []), (0, 5, []), (0, 5, []), (0, 5, []), (0, 30, []), (0, 5, []), (6, 3, [none, some 237, some 238]), (0, 5, []), (0, 5, []), (10, 4, [none, none, some 240, some 241])]
def lf_sh_4 : List lf_C := [(0, 6, []), (0, 6, []), (9, 2, [none, some 243]), (0, 240, []), (0, 7, []), (7, 12, [some 246, some 251, some 260, some 263, some 266, some 268, none, none, none, none, none, none]), (5, 5, [none, some 247, some 248, some 249, some 250]), (0, 6, []), (0, 6, []), (0, 6, []), (0, 6, []), (4, 9, [none, some 252, some 253, some 254, some 255, some 256, some 257, some 258, some 259]), (0, 5, []), (0, 5, []), (0, 5, []), (0, 5, []), (0, 5, []), (0, 5, []), (0, 30, []), (0, 5, []), (6, 3, [none, some 261, some 262]), (0, 5, []), (0, 5, []), (10, 4, [none, none, some 264, some 265]), (0, 6, []), (0, 6, []), (9, 2, [none, some 267]), (0, 240, []), (0, 7, []), (7, 12, [some 270, some 275, some 284, some 287, some 290, some 292, none, none, none, none, none, none]), (5, 5, [none, some 271, some 272, some 273, some 274]), (0, 6, []), (0, 6, []), (0, 6, []), (0, 6, []), (4, 9, [none, some 276, some 277, some 278, some 279, some 280, some 281, some 282, some 283]), (0, 5, []), (0, 5, []), (0, 5, []), (0, 5, []), (0, 5, []), (0, 5, []), (0, 30, []), (0, 5, []), (6, 3, [none, some 285, some 286]), (0, 5, []), (0, 5, []), (10, 4, [none, none, some 288, some 289]), (0, 6, []), (0, 6, []), (9, 2, [none, some 291]), (0, 240, []), (0, 7, []), (7, 12, [some 294, some 299, some 308, some 311, some 314, some 316, none, none, none, none, none, none]), (5, 5, [none, some 295, some 296, some 297, some 298]), (0, 6, []), (0, 6, []), (0, 6, []), (0, 6, []), (4, 9, [none, some 300, some 301, some 302, some 303, some 304, some 305, some 306, some 307])]
def lf_sh_5 : List lf_C := [(0, 5, []), (0, 5, []), (0, 5, []), (0, 5, []), (0, 5, []), (0, 5, []), (0, 30, []), (0, 5, []), (6, 3, [none, some 309, some 310]), (0, 5, []), (0, 5, []), (10, 4, [none, none, some 312, some 313]), (0, 6, []), (0, 6, []), (9, 2, [none, some 315]), (0, 240, []), (0, 7, []), (7, 12, [some 318, some 323, some 332, some 335, some 338, some 340, none, none, none, none, none, none]), (5, 5, [none, some 319, some 320, some 321, some 322]), (0, 6, []), (0, 6, []), (0, 6, []), (0, 6, []), (4, 9, [none, some 324, some 325, some 326, some 327, some 328, some 329, some 330, some 331]), (0, 5, []), (0, 5, []), (0, 5, []), (0, 5, []), (0, 5, []), (0, 5, []), (0, 30, []), (0, 5, []), (6, 3, [none, some 333, some 334]), (0, 5, []), (0, 5, []), (10, 4, [none, none, some 336, some 337]), (0, 6, []), (0, 6, []), (9, 2, [none, some 339]), (0, 240, []), (0, 7, []), (7, 12, [some 342, some 347, some 356, some 359, some 362, some 364, none, none, none, none, none, none]), (5, 5, [none, some 343, some 344, some 345, some 346]), (0, 6, []), (0, 6, []), (0, 6, []), (0, 6, []), (4, 9, [none, some 348, some 349, some 350, some 351, some 352, some 353, some 354, some 355]), (0, 5, []), (0, 5, []), (0, 5, []), (0, 5, []), (0, 5, []), (0, 5, []), (0, 30, []), (0, 5, []), (6, 3, [none, some 357, some 358]), (0, 5, []), (0, 5, []), (10, 4, [none, none, some 360, some 361])]
def lf_sh_6 : List lf_C := [(0, 6, []), (0, 6, []), (9, 2, [none, some 363]), (0, 240, []), (0, 7, []), (7, 12, [some 366, some 371, some 380, some 383, some 386, some 388, none, none, none, none, none, none]), (5, 5, [none, some 367, some 368, some 369, some 370]), (0, 6, []), (0, 6, []), (0, 6, []), (0, 6, []), (4, 9, [none, some 372, some 373, some 374, some 375, some 376, some 377, some 378, some 379]), (0, 5, []), (0, 5, []), (0, 5, []), (0, 5, []), (0, 5, []), (0, 5, []), (0, 30, []), (0, 5, []), (6, 3, [none, some 381, some 382]), (0, 5, []), (0, 5, []), (10, 4, [none, none, some 384, some 385]), (0, 6, []), (0, 6, []), (9, 2, [none, some 387]), (0, 240, []), (0, 7, []), (14, 25, [none, some 390, some 391, none, some 392, some 393, none, some 394, none, none, none, none, none, none, some 395, none, none, some 396, some 397, some 398, some 399, some 400, some 401, some 402, some 403]), (0, 766, []), (0, 766, []), (0, 366, []), (0, 4392, []), (0, 400, []), (0, 7, []), (0, 7, []), (0, 64, []), (0, 384, []), (0, 5, []), (0, 49, []), (0, 8, []), (0, 8, []), (1, 450, []), (2, 1, [])]
def lf_sh : List lf_C := lf_sh_0 ++ (lf_sh_1 ++ (lf_sh_2 ++ (lf_sh_3 ++ (lf_sh_4 ++ (lf_sh_5 ++ (lf_sh_6))))))
def lf_hp (s : lf_S) : mj_H := lf_sh.mapIdx (fun i c => lf_cell c (s.1 i) s.2)
def lf_w (s : lf_S) (a i : Nat) (v : Int32) : lf_S := (fun b => if b = a then upd (s.1 a) i v else s.1 b, s.2)
def lf_cp (s : lf_S) (a sp b dp n : Nat) : lf_S := (fun q => if q = b then va_cpy (s.1 a) (s.1 b) sp dp n else s.1 q, s.2)
def lf_wl (s : lf_S) (i : Nat) (v : Int64) : lf_S := (s.1, vp_updL s.2 i v)
-- the words of the lifted programs
def lf_lt {α β : Type} (v : α) (f : α → β) : β := f v
def lf_i (b : Bool) : Int32 := if b then 1 else 0
def lf_ck {α : Type} (x : Int32) (n : Nat) (A : Nat → Option α) : Option α := if x < 0 ∨ n ≤ x.toNatClampNeg then none else A x.toNatClampNeg
def lf_nz {α : Type} (y : Int32) (A : Option α) : Option α := if y = 0 then none else A
def lf_nzl {α : Type} (y : Int64) (A : Option α) : Option α := if y = 0 then none else A
def lf_z {α : Type} (v : Int32) (A : Option α) : Option α := if v = 0 ∨ v = 1 then A else none
def lf_us (x y : Int32) : Int32 := (x.toUInt32 >>> (y.toUInt32 &&& Int32.toUInt32 31)).toInt32
def lf_mx (x y : Int32) : Int32 := if x < y then y else x
def lf_mn (x y : Int32) : Int32 := if y < x then y else x
theorem lf_i_01 (b : Bool) : lf_i b = 0 ∨ lf_i b = 1 := by cases b <;> simp [lf_i]
theorem lf_ck_some {α : Type} {x : Int32} {n : Nat} {A : Nat → Option α} {r : α} (h : lf_ck x n A = some r) : vp_in x n ∧ A x.toNatClampNeg = some r := by
  unfold lf_ck at h
  by_cases c : x < 0 ∨ n ≤ x.toNatClampNeg
  · rw [if_pos c] at h; cases h
  · rw [if_neg c] at h; exact ⟨c, h⟩
theorem lf_get {s : lf_S} {a : Nat} {c : lf_C} (h : lf_sh[a]? = some c) : (lf_hp s)[a]? = some (lf_cell c (s.1 a) s.2) := by
  unfold lf_hp
  rw [List.getElem?_mapIdx, h]; rfl
theorem lf_set {s : lf_S} {a : Nat} {c : lf_C} (h : lf_sh[a]? = some c) (f : Nat → Int32) : (lf_hp s).set a (lf_cell c f s.2) = lf_hp (fun b => if b = a then f else s.1 b, s.2) := by
  apply List.ext_getElem?
  intro j
  unfold lf_hp
  rw [List.getElem?_set, List.getElem?_mapIdx, List.getElem?_mapIdx, List.length_mapIdx]
  have ha : a < lf_sh.length := (List.getElem?_eq_some_iff.mp h).1
  by_cases e : a = j
  · subst e
    rw [if_pos rfl, if_pos ha, h]
    show some _ = some _
    dsimp only
    rw [if_pos rfl]
  · rw [if_neg e]
    dsimp only
    rw [if_neg (fun q => e q.symm)]
theorem lf_long1 : ∀ i, i < lf_sh.length → (lf_sh.getD i (0, 0, [])).1 = 2 → i = 404 := by decide +kernel
theorem lf_setl {s : lf_S} {n : Nat} {rl : List (Option Nat)} (h : lf_sh[404]? = some (2, n, rl)) (g : Nat → Int64) : (lf_hp s).set 404 (.inl (2, n, .inr (.inl g))) = lf_hp (s.1, g) := by
  apply List.ext_getElem?
  intro j
  unfold lf_hp
  rw [List.getElem?_set, List.getElem?_mapIdx, List.getElem?_mapIdx, List.length_mapIdx]
  have ha : 404 < lf_sh.length := (List.getElem?_eq_some_iff.mp h).1
  by_cases e : 404 = j
  · subst e
    rw [if_pos rfl, if_pos ha, h]; rfl
  · rw [if_neg e]
    cases hj : lf_sh[j]? with
    | none => rfl
    | some c =>
      have hlt := (List.getElem?_eq_some_iff.mp hj).1
      have h2 := lf_long1 j hlt
      rw [List.getD_eq_getElem?_getD, hj] at h2
      have h3 : c.1 ≠ 2 := fun q => e (h2 q).symm
      show some _ = some _
      obtain ⟨k, m, q⟩ := c
      dsimp only
      match k, h3 with
      | 0, _ => rfl
      | 1, _ => rfl
      | 2, h3 => exact absurd rfl h3
      | 3, _ => rfl
      | k + 4, _ => rfl
theorem lf_fs_int {rl : List (Option Nat)} {f : Nat → Int32} {k : Nat} (h : rl[k]? = some none) : (lf_fs rl f)[k]? = some (.int (f k)) := by
  unfold lf_fs
  rw [List.getElem?_mapIdx, h]; rfl
theorem lf_fs_ref {rl : List (Option Nat)} {f : Nat → Int32} {k q : Nat} (h : rl[k]? = some (some q)) : (lf_fs rl f)[k]? = some (.ref q) := by
  unfold lf_fs
  rw [List.getElem?_mapIdx, h]; rfl
theorem lf_fs_set {rl : List (Option Nat)} {f : Nat → Int32} {k : Nat} (h : rl[k]? = some none) (v : Int32) : (lf_fs rl f).set k (.int v) = lf_fs rl (upd f k v) := by
  apply List.ext_getElem?
  intro j
  unfold lf_fs
  rw [List.getElem?_set, List.getElem?_mapIdx, List.getElem?_mapIdx, List.length_mapIdx]
  have hk : k < rl.length := (List.getElem?_eq_some_iff.mp h).1
  by_cases e : k = j
  · subst e
    rw [if_pos rfl, if_pos hk, h]
    show some _ = some _
    dsimp only
    rw [show upd f k v k = v from if_pos rfl]
  · rw [if_neg e]
    cases hj : rl[j]? with
    | none => rfl
    | some x =>
      show some _ = some _
      cases x with
      | some q => rfl
      | none =>
        dsimp only
        rw [show upd f k v j = f j from if_neg (fun q => e q.symm)]
/-- a method that doesn't throw, makes nothing: from s to s', whatever came before -/
def lf_ok (sc : Nat × (Nat → Int32)) (D j : Nat) (as : List Value) (s : lf_S) (v : Option Value) (s' : lf_S) : Prop := ∀ d, D ≤ d → ∀ cl, mj_rn sc d j as (lf_hp s) cl 0 0 (.inl v) (lf_hp s') cl
/-- one that throws -/
def lf_no (sc : Nat × (Nat → Int32)) (D j : Nat) (as : List Value) (s : lf_S) (x : Nat) (s' : lf_S) : Prop := ∀ d, D ≤ d → ∀ cl, mj_rn sc d j as (lf_hp s) cl 1 6 (.inr x) (lf_hp s') false
abbrev lf_wp (sc : Nat × (Nat → Int32)) (d j : Nat) (Q : mj_Q) : mj_J := mj_w sc mj_tx mj_na (mj_rn sc d) (mj_hd j) (mj_bl j) Q
def lf_Q (o : mj_O) (s : lf_S) (cl : Bool) : mj_Q := fun o1 h1 cl1 => o1 = o ∧ h1 = lf_hp s ∧ cl1 = cl
theorem lf_in {sc : Nat × (Nat → Int32)} {D j : Nat} {as ls : List Value} {s s' : lf_S} {v : Option Value} (h1 : (Nat.ble as.length (mj_nl j) && (as.all mj_pl && as.all (fun v => v.category == 1))) = true) (hz : mj_zok j (.inl v)) (hls : as ++ List.replicate (mj_nl j - as.length) mj_U = ls)
    (hw : ∀ d, D ≤ d → ∀ cl rc rs, lf_wp sc d j (lf_Q (.inl v) s' cl) 0 ls [] (lf_hp s) cl rc rs) : lf_ok sc (D + 1) j as s v s' := by
  intro d hd cl
  rw [Bool.and_eq_true, Bool.and_eq_true] at h1
  obtain ⟨a1, a2, a3⟩ := h1
  cases d with
  | zero => exact absurd hd (by omega)
  | succ d =>
    subst hls
    exact ⟨Nat.le_of_ble_eq_true a1, a2, fun v hv => by simpa using List.all_eq_true.mp a3 v hv, hz, hw d (by omega) cl 0 0⟩
theorem lf_zi {j : Nat} {v : Option Value} (h : mj_zb j = 0) : mj_zok j (.inl v) := fun q => by rw [h] at q; cases q
theorem lf_zb {j : Nat} {b : Bool} : mj_zok j (.inl (some (.int (lf_i b)))) := fun _ x e => by
  cases e
  exact lf_i_01 b
theorem lf_ok_mono {sc : Nat × (Nat → Int32)} {D D' j : Nat} {as : List Value} {s s' : lf_S} {v : Option Value} (h : D ≤ D') (k : lf_ok sc D j as s v s') : lf_ok sc D' j as s v s' := fun d hd => k d (Nat.le_trans h hd)
section LFT
variable {sc : Nat × (Nat → Int32)} {d : Nat} {hd : List (Nat × Nat × Nat × Nat)} {J : mj_J} {Q : mj_Q} {pc ft : Nat} {is : mj_B} {ls st : List Value} {s : lf_S} {cl : Bool} {rc rs : Nat} {α β : Type} {r : α}
theorem lf_iload {n : Nat} {x : Int32} (h1 : ls[n]? = some (.int x)) (kk : mj_b sc mj_tx mj_na (mj_rn sc d) hd J Q (is) ft ls (.int x :: st) (lf_hp s) cl rc rs) : mj_b sc mj_tx mj_na (mj_rn sc d) hd J Q ((pc, .iload n) :: is) ft ls st (lf_hp s) cl rc rs := ⟨x, h1, kk⟩
theorem lf_lload {n : Nat} {x : Int64} (h1 : ls[n]? = some (.long x)) (kk : mj_b sc mj_tx mj_na (mj_rn sc d) hd J Q (is) ft ls (.long x :: st) (lf_hp s) cl rc rs) : mj_b sc mj_tx mj_na (mj_rn sc d) hd J Q ((pc, .lload n) :: is) ft ls st (lf_hp s) cl rc rs := ⟨x, h1, kk⟩
theorem lf_aload {n : Nat} {x : Nat} (h1 : ls[n]? = some (.ref x)) (kk : mj_b sc mj_tx mj_na (mj_rn sc d) hd J Q (is) ft ls (.ref x :: st) (lf_hp s) cl rc rs) : mj_b sc mj_tx mj_na (mj_rn sc d) hd J Q ((pc, .aload n) :: is) ft ls st (lf_hp s) cl rc rs := ⟨x, h1, kk⟩
theorem lf_iconst {v : Int} {x : Int32} (h1 : Int32.ofInt v = x) (kk : mj_b sc mj_tx mj_na (mj_rn sc d) hd J Q (is) ft ls (.int x :: st) (lf_hp s) cl rc rs) : mj_b sc mj_tx mj_na (mj_rn sc d) hd J Q ((pc, .iconst v) :: is) ft ls st (lf_hp s) cl rc rs := by subst h1; exact kk
theorem lf_lconst {v : Nat} {x : Int64} (h1 : Int64.ofNat v = x) (kk : mj_b sc mj_tx mj_na (mj_rn sc d) hd J Q (is) ft ls (.long x :: st) (lf_hp s) cl rc rs) : mj_b sc mj_tx mj_na (mj_rn sc d) hd J Q ((pc, .ldc2_w v) :: is) ft ls st (lf_hp s) cl rc rs := by subst h1; exact kk
theorem lf_ldc {v : Nat} (kk : mj_b sc mj_tx mj_na (mj_rn sc d) hd J Q (is) ft ls (.ref (mj_SC + 1 + v) :: st) (lf_hp s) cl rc rs) : mj_b sc mj_tx mj_na (mj_rn sc d) hd J Q ((pc, .ldc v) :: is) ft ls st (lf_hp s) cl rc rs := kk
theorem lf_ineg {x : Int32} (kk : mj_b sc mj_tx mj_na (mj_rn sc d) hd J Q (is) ft ls (.int (-x) :: st) (lf_hp s) cl rc rs) : mj_b sc mj_tx mj_na (mj_rn sc d) hd J Q ((pc, .ineg) :: is) ft ls (.int x :: st) (lf_hp s) cl rc rs := ⟨x, st, rfl, kk⟩
theorem lf_i2l {x : Int32} (kk : mj_b sc mj_tx mj_na (mj_rn sc d) hd J Q (is) ft ls (.long x.toInt64 :: st) (lf_hp s) cl rc rs) : mj_b sc mj_tx mj_na (mj_rn sc d) hd J Q ((pc, .i2l) :: is) ft ls (.int x :: st) (lf_hp s) cl rc rs := ⟨x, st, rfl, kk⟩
theorem lf_l2i {x : Int64} (kk : mj_b sc mj_tx mj_na (mj_rn sc d) hd J Q (is) ft ls (.int x.toInt32 :: st) (lf_hp s) cl rc rs) : mj_b sc mj_tx mj_na (mj_rn sc d) hd J Q ((pc, .l2i) :: is) ft ls (.long x :: st) (lf_hp s) cl rc rs := ⟨x, st, rfl, kk⟩
theorem lf_lcmp {x y : Int64} (kk : mj_b sc mj_tx mj_na (mj_rn sc d) hd J Q (is) ft ls (.int (lg_cmp x y) :: st) (lf_hp s) cl rc rs) : mj_b sc mj_tx mj_na (mj_rn sc d) hd J Q ((pc, .lcmp) :: is) ft ls (.long y :: .long x :: st) (lf_hp s) cl rc rs := ⟨x, y, st, rfl, kk⟩
theorem lf_dupi {x : Int32} (kk : mj_b sc mj_tx mj_na (mj_rn sc d) hd J Q (is) ft ls (.int x :: .int x :: st) (lf_hp s) cl rc rs) : mj_b sc mj_tx mj_na (mj_rn sc d) hd J Q ((pc, .dup) :: is) ft ls (.int x :: st) (lf_hp s) cl rc rs := ⟨.int x, st, rfl, Or.inl ⟨x, rfl⟩, kk⟩
theorem lf_dupr {x : Nat} (kk : mj_b sc mj_tx mj_na (mj_rn sc d) hd J Q (is) ft ls (.ref x :: .ref x :: st) (lf_hp s) cl rc rs) : mj_b sc mj_tx mj_na (mj_rn sc d) hd J Q ((pc, .dup) :: is) ft ls (.ref x :: st) (lf_hp s) cl rc rs := ⟨.ref x, st, rfl, Or.inr ⟨x, rfl⟩, kk⟩
theorem lf_popi {x : Int32} (kk : mj_b sc mj_tx mj_na (mj_rn sc d) hd J Q (is) ft ls st (lf_hp s) cl rc rs) : mj_b sc mj_tx mj_na (mj_rn sc d) hd J Q ((pc, .pop) :: is) ft ls (.int x :: st) (lf_hp s) cl rc rs := ⟨.int x, st, rfl, Or.inl ⟨x, rfl⟩, kk⟩
theorem lf_popr {x : Nat} (kk : mj_b sc mj_tx mj_na (mj_rn sc d) hd J Q (is) ft ls st (lf_hp s) cl rc rs) : mj_b sc mj_tx mj_na (mj_rn sc d) hd J Q ((pc, .pop) :: is) ft ls (.ref x :: st) (lf_hp s) cl rc rs := ⟨.ref x, st, rfl, Or.inr ⟨x, rfl⟩, kk⟩
theorem lf_dup2 {x : Int32} {a : Nat} (kk : mj_b sc mj_tx mj_na (mj_rn sc d) hd J Q (is) ft ls (.int x :: .ref a :: .int x :: .ref a :: st) (lf_hp s) cl rc rs) : mj_b sc mj_tx mj_na (mj_rn sc d) hd J Q ((pc, .dup2) :: is) ft ls (.int x :: .ref a :: st) (lf_hp s) cl rc rs := ⟨x, a, st, rfl, kk⟩
theorem lf_ladd {x y : Int64} (kk : mj_b sc mj_tx mj_na (mj_rn sc d) hd J Q (is) ft ls (.long (x + y) :: st) (lf_hp s) cl rc rs) : mj_b sc mj_tx mj_na (mj_rn sc d) hd J Q ((pc, .ladd) :: is) ft ls (.long y :: .long x :: st) (lf_hp s) cl rc rs := ⟨x, y, _, st, rfl, rfl, kk⟩
theorem lf_lmul {x y : Int64} (kk : mj_b sc mj_tx mj_na (mj_rn sc d) hd J Q (is) ft ls (.long (x * y) :: st) (lf_hp s) cl rc rs) : mj_b sc mj_tx mj_na (mj_rn sc d) hd J Q ((pc, .lmul) :: is) ft ls (.long y :: .long x :: st) (lf_hp s) cl rc rs := ⟨x, y, _, st, rfl, rfl, kk⟩
theorem lf_iadd {x y : Int32} (kk : mj_b sc mj_tx mj_na (mj_rn sc d) hd J Q (is) ft ls (.int (x + y) :: st) (lf_hp s) cl rc rs) : mj_b sc mj_tx mj_na (mj_rn sc d) hd J Q ((pc, .iadd) :: is) ft ls (.int y :: .int x :: st) (lf_hp s) cl rc rs := ⟨x, y, _, st, rfl, rfl, kk⟩
theorem lf_isub {x y : Int32} (kk : mj_b sc mj_tx mj_na (mj_rn sc d) hd J Q (is) ft ls (.int (x - y) :: st) (lf_hp s) cl rc rs) : mj_b sc mj_tx mj_na (mj_rn sc d) hd J Q ((pc, .isub) :: is) ft ls (.int y :: .int x :: st) (lf_hp s) cl rc rs := ⟨x, y, _, st, rfl, rfl, kk⟩
theorem lf_imul {x y : Int32} (kk : mj_b sc mj_tx mj_na (mj_rn sc d) hd J Q (is) ft ls (.int (x * y) :: st) (lf_hp s) cl rc rs) : mj_b sc mj_tx mj_na (mj_rn sc d) hd J Q ((pc, .imul) :: is) ft ls (.int y :: .int x :: st) (lf_hp s) cl rc rs := ⟨x, y, _, st, rfl, rfl, kk⟩
theorem lf_iand {x y : Int32} (kk : mj_b sc mj_tx mj_na (mj_rn sc d) hd J Q (is) ft ls (.int (x &&& y) :: st) (lf_hp s) cl rc rs) : mj_b sc mj_tx mj_na (mj_rn sc d) hd J Q ((pc, .iand) :: is) ft ls (.int y :: .int x :: st) (lf_hp s) cl rc rs := ⟨x, y, _, st, rfl, rfl, kk⟩
theorem lf_ior {x y : Int32} (kk : mj_b sc mj_tx mj_na (mj_rn sc d) hd J Q (is) ft ls (.int (x ||| y) :: st) (lf_hp s) cl rc rs) : mj_b sc mj_tx mj_na (mj_rn sc d) hd J Q ((pc, .ior) :: is) ft ls (.int y :: .int x :: st) (lf_hp s) cl rc rs := ⟨x, y, _, st, rfl, rfl, kk⟩
theorem lf_ixor {x y : Int32} (kk : mj_b sc mj_tx mj_na (mj_rn sc d) hd J Q (is) ft ls (.int (x ^^^ y) :: st) (lf_hp s) cl rc rs) : mj_b sc mj_tx mj_na (mj_rn sc d) hd J Q ((pc, .ixor) :: is) ft ls (.int y :: .int x :: st) (lf_hp s) cl rc rs := ⟨x, y, _, st, rfl, rfl, kk⟩
theorem lf_ishl {x y : Int32} (kk : mj_b sc mj_tx mj_na (mj_rn sc d) hd J Q (is) ft ls (.int (x <<< (y &&& 31)) :: st) (lf_hp s) cl rc rs) : mj_b sc mj_tx mj_na (mj_rn sc d) hd J Q ((pc, .ishl) :: is) ft ls (.int y :: .int x :: st) (lf_hp s) cl rc rs := ⟨x, y, _, st, rfl, rfl, kk⟩
theorem lf_ishr {x y : Int32} (kk : mj_b sc mj_tx mj_na (mj_rn sc d) hd J Q (is) ft ls (.int (x >>> (y &&& 31)) :: st) (lf_hp s) cl rc rs) : mj_b sc mj_tx mj_na (mj_rn sc d) hd J Q ((pc, .ishr) :: is) ft ls (.int y :: .int x :: st) (lf_hp s) cl rc rs := ⟨x, y, _, st, rfl, rfl, kk⟩
theorem lf_iushr {x y : Int32} (kk : mj_b sc mj_tx mj_na (mj_rn sc d) hd J Q (is) ft ls (.int (lf_us x y) :: st) (lf_hp s) cl rc rs) : mj_b sc mj_tx mj_na (mj_rn sc d) hd J Q ((pc, .iushr) :: is) ft ls (.int y :: .int x :: st) (lf_hp s) cl rc rs := ⟨x, y, _, st, rfl, rfl, kk⟩
theorem lf_idiv {x y : Int32} (h0 : ¬ y = 0) (kk : mj_b sc mj_tx mj_na (mj_rn sc d) hd J Q (is) ft ls (.int (x / y) :: st) (lf_hp s) cl rc rs) : mj_b sc mj_tx mj_na (mj_rn sc d) hd J Q ((pc, .idiv) :: is) ft ls (.int y :: .int x :: st) (lf_hp s) cl rc rs := ⟨x, y, _, st, rfl, if_neg h0, kk⟩
theorem lf_idivz {x y : Int32} {A : Option α} (h : lf_nz y A = some r) (kk : A = some r → mj_b sc mj_tx mj_na (mj_rn sc d) hd J Q (is) ft ls (.int (x / y) :: st) (lf_hp s) cl rc rs) : mj_b sc mj_tx mj_na (mj_rn sc d) hd J Q ((pc, .idiv) :: is) ft ls (.int y :: .int x :: st) (lf_hp s) cl rc rs := by
  unfold lf_nz at h
  by_cases c : y = 0
  · rw [if_pos c] at h; cases h
  · rw [if_neg c] at h; exact lf_idiv c (kk h)
theorem lf_irem {x y : Int32} (h0 : ¬ y = 0) (kk : mj_b sc mj_tx mj_na (mj_rn sc d) hd J Q (is) ft ls (.int (x % y) :: st) (lf_hp s) cl rc rs) : mj_b sc mj_tx mj_na (mj_rn sc d) hd J Q ((pc, .irem) :: is) ft ls (.int y :: .int x :: st) (lf_hp s) cl rc rs := ⟨x, y, _, st, rfl, if_neg h0, kk⟩
theorem lf_iremz {x y : Int32} {A : Option α} (h : lf_nz y A = some r) (kk : A = some r → mj_b sc mj_tx mj_na (mj_rn sc d) hd J Q (is) ft ls (.int (x % y) :: st) (lf_hp s) cl rc rs) : mj_b sc mj_tx mj_na (mj_rn sc d) hd J Q ((pc, .irem) :: is) ft ls (.int y :: .int x :: st) (lf_hp s) cl rc rs := by
  unfold lf_nz at h
  by_cases c : y = 0
  · rw [if_pos c] at h; cases h
  · rw [if_neg c] at h; exact lf_irem c (kk h)
theorem lf_ldivz {x y : Int64} {A : Option α} (h : lf_nzl y A = some r) (kk : A = some r → mj_b sc mj_tx mj_na (mj_rn sc d) hd J Q (is) ft ls (.long (x / y) :: st) (lf_hp s) cl rc rs) : mj_b sc mj_tx mj_na (mj_rn sc d) hd J Q ((pc, .ldiv) :: is) ft ls (.long y :: .long x :: st) (lf_hp s) cl rc rs := by
  unfold lf_nzl at h
  by_cases c : y = 0
  · rw [if_pos c] at h; cases h
  · rw [if_neg c] at h; exact ⟨x, y, _, st, rfl, if_neg c, kk h⟩
theorem lf_istore {n : Nat} {e : Int32} {A : Int32 → Option α} {L : Int32 → List Value} (h : lf_lt e A = some r) (h1 : Nat.ble (n + 1) ls.length = true) (h2 : mj_lg ls n = false) (h3 : ∀ x, ls.set n (.int x) = L x) (kk : ∀ x, A x = some r → mj_b sc mj_tx mj_na (mj_rn sc d) hd J Q (is) ft (L x) st (lf_hp s) cl rc rs) : mj_b sc mj_tx mj_na (mj_rn sc d) hd J Q ((pc, .istore n) :: is) ft ls (.int e :: st) (lf_hp s) cl rc rs := ⟨e, st, rfl, Nat.le_of_ble_eq_true h1, h2, (h3 e).symm ▸ kk e h⟩
theorem lf_lstore {n : Nat} {e : Int64} {A : Int64 → Option α} {L : Int64 → List Value} (h : lf_lt e A = some r) (h1 : Nat.ble (n + 2) ls.length = true) (h2 : mj_lg ls n = false) (h3 : ∀ x, (ls.set n (.long x)).set (n + 1) mj_U = L x) (kk : ∀ x, A x = some r → mj_b sc mj_tx mj_na (mj_rn sc d) hd J Q (is) ft (L x) st (lf_hp s) cl rc rs) : mj_b sc mj_tx mj_na (mj_rn sc d) hd J Q ((pc, .lstore n) :: is) ft ls (.long e :: st) (lf_hp s) cl rc rs := ⟨e, st, rfl, Nat.le_of_ble_eq_true h1, h2, (h3 e).symm ▸ kk e h⟩
theorem lf_astore {n a : Nat} {L : List Value} (h1 : Nat.ble (n + 1) ls.length = true) (h2 : mj_lg ls n = false) (h3 : ls.set n (.ref a) = L) (kk : mj_b sc mj_tx mj_na (mj_rn sc d) hd J Q (is) ft L st (lf_hp s) cl rc rs) : mj_b sc mj_tx mj_na (mj_rn sc d) hd J Q ((pc, .astore n) :: is) ft ls (.ref a :: st) (lf_hp s) cl rc rs := ⟨.ref a, st, rfl, Or.inr ⟨a, rfl⟩, Nat.le_of_ble_eq_true h1, h2, h3.symm ▸ kk⟩
theorem lf_iinc {n : Nat} {v : Int} {x c : Int32} {A : Int32 → Option α} {L : Int32 → List Value} (h : lf_lt (x + c) A = some r) (hc : Int32.ofInt v = c) (h1 : ls[n]? = some (.int x)) (h2 : mj_lg ls n = false) (h3 : ∀ x, ls.set n (.int x) = L x) (kk : ∀ x, A x = some r → mj_b sc mj_tx mj_na (mj_rn sc d) hd J Q (is) ft (L x) st (lf_hp s) cl rc rs) : mj_b sc mj_tx mj_na (mj_rn sc d) hd J Q ((pc, .iinc n v) :: is) ft ls st (lf_hp s) cl rc rs := by
  subst hc
  exact ⟨x, h1, h2, (h3 _).symm ▸ kk _ h⟩
theorem lf_goto {t : Int} (kk : J t.toNat ls st (lf_hp s) cl rc rs) : mj_b sc mj_tx mj_na (mj_rn sc d) hd J Q ((pc, .goto t) :: is) ft ls st (lf_hp s) cl rc rs := kk
theorem lf_end (kk : J ft ls st (lf_hp s) cl rc rs) : mj_b sc mj_tx mj_na (mj_rn sc d) hd J Q [] ft ls st (lf_hp s) cl rc rs := kk
theorem lf_if_eq {x : Int32} {t : Int} {A A2 : Option α} (h : (if x = 0 then A else A2) = some r) (kt : A = some r → J t.toNat ls st (lf_hp s) cl rc rs) (kf : A2 = some r → mj_b sc mj_tx mj_na (mj_rn sc d) hd J Q (is) ft ls st (lf_hp s) cl rc rs) : mj_b sc mj_tx mj_na (mj_rn sc d) hd J Q ((pc, .ifCond .eq t) :: is) ft ls (.int x :: st) (lf_hp s) cl rc rs := ⟨x, st, rfl, fun c => kt (by rw [if_pos (show x = 0 from c)] at h; exact h), fun c => kf (by rw [if_neg (show ¬ (x = 0) from c)] at h; exact h)⟩
theorem lf_if_ne {x : Int32} {t : Int} {A A2 : Option α} (h : (if x = 0 then A2 else A) = some r) (kt : A = some r → J t.toNat ls st (lf_hp s) cl rc rs) (kf : A2 = some r → mj_b sc mj_tx mj_na (mj_rn sc d) hd J Q (is) ft ls st (lf_hp s) cl rc rs) : mj_b sc mj_tx mj_na (mj_rn sc d) hd J Q ((pc, .ifCond .ne t) :: is) ft ls (.int x :: st) (lf_hp s) cl rc rs := ⟨x, st, rfl, fun c => kt (by rw [if_neg (show ¬ (x = 0) from c)] at h; exact h), fun c => kf (by rw [if_pos (show x = 0 from Classical.not_not.mp c)] at h; exact h)⟩
theorem lf_if_lt {x : Int32} {t : Int} {A A2 : Option α} (h : (if x < 0 then A else A2) = some r) (kt : A = some r → J t.toNat ls st (lf_hp s) cl rc rs) (kf : A2 = some r → mj_b sc mj_tx mj_na (mj_rn sc d) hd J Q (is) ft ls st (lf_hp s) cl rc rs) : mj_b sc mj_tx mj_na (mj_rn sc d) hd J Q ((pc, .ifCond .lt t) :: is) ft ls (.int x :: st) (lf_hp s) cl rc rs := ⟨x, st, rfl, fun c => kt (by rw [if_pos (show x < 0 from c)] at h; exact h), fun c => kf (by rw [if_neg (show ¬ (x < 0) from c)] at h; exact h)⟩
theorem lf_if_ge {x : Int32} {t : Int} {A A2 : Option α} (h : (if 0 ≤ x then A else A2) = some r) (kt : A = some r → J t.toNat ls st (lf_hp s) cl rc rs) (kf : A2 = some r → mj_b sc mj_tx mj_na (mj_rn sc d) hd J Q (is) ft ls st (lf_hp s) cl rc rs) : mj_b sc mj_tx mj_na (mj_rn sc d) hd J Q ((pc, .ifCond .ge t) :: is) ft ls (.int x :: st) (lf_hp s) cl rc rs := ⟨x, st, rfl, fun c => kt (by rw [if_pos (show 0 ≤ x from c)] at h; exact h), fun c => kf (by rw [if_neg (show ¬ (0 ≤ x) from c)] at h; exact h)⟩
theorem lf_if_gt {x : Int32} {t : Int} {A A2 : Option α} (h : (if 0 < x then A else A2) = some r) (kt : A = some r → J t.toNat ls st (lf_hp s) cl rc rs) (kf : A2 = some r → mj_b sc mj_tx mj_na (mj_rn sc d) hd J Q (is) ft ls st (lf_hp s) cl rc rs) : mj_b sc mj_tx mj_na (mj_rn sc d) hd J Q ((pc, .ifCond .gt t) :: is) ft ls (.int x :: st) (lf_hp s) cl rc rs := ⟨x, st, rfl, fun c => kt (by rw [if_pos (show 0 < x from c)] at h; exact h), fun c => kf (by rw [if_neg (show ¬ (0 < x) from c)] at h; exact h)⟩
theorem lf_if_le {x : Int32} {t : Int} {A A2 : Option α} (h : (if x ≤ 0 then A else A2) = some r) (kt : A = some r → J t.toNat ls st (lf_hp s) cl rc rs) (kf : A2 = some r → mj_b sc mj_tx mj_na (mj_rn sc d) hd J Q (is) ft ls st (lf_hp s) cl rc rs) : mj_b sc mj_tx mj_na (mj_rn sc d) hd J Q ((pc, .ifCond .le t) :: is) ft ls (.int x :: st) (lf_hp s) cl rc rs := ⟨x, st, rfl, fun c => kt (by rw [if_pos (show x ≤ 0 from c)] at h; exact h), fun c => kf (by rw [if_neg (show ¬ (x ≤ 0) from c)] at h; exact h)⟩
theorem lf_icmp_eq {x y : Int32} {t : Int} {A A2 : Option α} (h : (if x = y then A else A2) = some r) (kt : A = some r → J t.toNat ls st (lf_hp s) cl rc rs) (kf : A2 = some r → mj_b sc mj_tx mj_na (mj_rn sc d) hd J Q (is) ft ls st (lf_hp s) cl rc rs) : mj_b sc mj_tx mj_na (mj_rn sc d) hd J Q ((pc, .if_icmp .eq t) :: is) ft ls (.int y :: .int x :: st) (lf_hp s) cl rc rs := ⟨x, y, st, rfl, fun c => kt (by rw [if_pos (show x = y from c)] at h; exact h), fun c => kf (by rw [if_neg (show ¬ (x = y) from c)] at h; exact h)⟩
theorem lf_icmp_ne {x y : Int32} {t : Int} {A A2 : Option α} (h : (if x = y then A2 else A) = some r) (kt : A = some r → J t.toNat ls st (lf_hp s) cl rc rs) (kf : A2 = some r → mj_b sc mj_tx mj_na (mj_rn sc d) hd J Q (is) ft ls st (lf_hp s) cl rc rs) : mj_b sc mj_tx mj_na (mj_rn sc d) hd J Q ((pc, .if_icmp .ne t) :: is) ft ls (.int y :: .int x :: st) (lf_hp s) cl rc rs := ⟨x, y, st, rfl, fun c => kt (by rw [if_neg (show ¬ (x = y) from c)] at h; exact h), fun c => kf (by rw [if_pos (show x = y from Classical.not_not.mp c)] at h; exact h)⟩
theorem lf_icmp_lt {x y : Int32} {t : Int} {A A2 : Option α} (h : (if x < y then A else A2) = some r) (kt : A = some r → J t.toNat ls st (lf_hp s) cl rc rs) (kf : A2 = some r → mj_b sc mj_tx mj_na (mj_rn sc d) hd J Q (is) ft ls st (lf_hp s) cl rc rs) : mj_b sc mj_tx mj_na (mj_rn sc d) hd J Q ((pc, .if_icmp .lt t) :: is) ft ls (.int y :: .int x :: st) (lf_hp s) cl rc rs := ⟨x, y, st, rfl, fun c => kt (by rw [if_pos (show x < y from c)] at h; exact h), fun c => kf (by rw [if_neg (show ¬ (x < y) from c)] at h; exact h)⟩
theorem lf_icmp_ge {x y : Int32} {t : Int} {A A2 : Option α} (h : (if y ≤ x then A else A2) = some r) (kt : A = some r → J t.toNat ls st (lf_hp s) cl rc rs) (kf : A2 = some r → mj_b sc mj_tx mj_na (mj_rn sc d) hd J Q (is) ft ls st (lf_hp s) cl rc rs) : mj_b sc mj_tx mj_na (mj_rn sc d) hd J Q ((pc, .if_icmp .ge t) :: is) ft ls (.int y :: .int x :: st) (lf_hp s) cl rc rs := ⟨x, y, st, rfl, fun c => kt (by rw [if_pos (show y ≤ x from c)] at h; exact h), fun c => kf (by rw [if_neg (show ¬ (y ≤ x) from c)] at h; exact h)⟩
theorem lf_icmp_gt {x y : Int32} {t : Int} {A A2 : Option α} (h : (if y < x then A else A2) = some r) (kt : A = some r → J t.toNat ls st (lf_hp s) cl rc rs) (kf : A2 = some r → mj_b sc mj_tx mj_na (mj_rn sc d) hd J Q (is) ft ls st (lf_hp s) cl rc rs) : mj_b sc mj_tx mj_na (mj_rn sc d) hd J Q ((pc, .if_icmp .gt t) :: is) ft ls (.int y :: .int x :: st) (lf_hp s) cl rc rs := ⟨x, y, st, rfl, fun c => kt (by rw [if_pos (show y < x from c)] at h; exact h), fun c => kf (by rw [if_neg (show ¬ (y < x) from c)] at h; exact h)⟩
theorem lf_icmp_le {x y : Int32} {t : Int} {A A2 : Option α} (h : (if x ≤ y then A else A2) = some r) (kt : A = some r → J t.toNat ls st (lf_hp s) cl rc rs) (kf : A2 = some r → mj_b sc mj_tx mj_na (mj_rn sc d) hd J Q (is) ft ls st (lf_hp s) cl rc rs) : mj_b sc mj_tx mj_na (mj_rn sc d) hd J Q ((pc, .if_icmp .le t) :: is) ft ls (.int y :: .int x :: st) (lf_hp s) cl rc rs := ⟨x, y, st, rfl, fun c => kt (by rw [if_pos (show x ≤ y from c)] at h; exact h), fun c => kf (by rw [if_neg (show ¬ (x ≤ y) from c)] at h; exact h)⟩
theorem lf_ifb_eq {b : Bool} {t : Int} {A A2 : Option α} (h : (if b = true then A2 else A) = some r) (kt : A = some r → J t.toNat ls st (lf_hp s) cl rc rs) (kf : A2 = some r → mj_b sc mj_tx mj_na (mj_rn sc d) hd J Q (is) ft ls st (lf_hp s) cl rc rs) : mj_b sc mj_tx mj_na (mj_rn sc d) hd J Q ((pc, .ifCond .eq t) :: is) ft ls (.int (lf_i b) :: st) (lf_hp s) cl rc rs := by
  cases b
  · exact ⟨_, st, rfl, fun _ => kt h, fun c => absurd rfl c⟩
  · exact ⟨_, st, rfl, fun c => absurd c (show ¬ (lf_i true = 0) by decide), fun _ => kf h⟩
theorem lf_ifb_ne {b : Bool} {t : Int} {A A2 : Option α} (h : (if b = true then A else A2) = some r) (kt : A = some r → J t.toNat ls st (lf_hp s) cl rc rs) (kf : A2 = some r → mj_b sc mj_tx mj_na (mj_rn sc d) hd J Q (is) ft ls st (lf_hp s) cl rc rs) : mj_b sc mj_tx mj_na (mj_rn sc d) hd J Q ((pc, .ifCond .ne t) :: is) ft ls (.int (lf_i b) :: st) (lf_hp s) cl rc rs := by
  cases b
  · exact ⟨_, st, rfl, fun c => absurd rfl c, fun _ => kf h⟩
  · exact ⟨_, st, rfl, fun _ => kt h, fun c => absurd (show ¬ (lf_i true = 0) by decide) c⟩
theorem lf_icmpb_eq {b b2 : Bool} {t : Int} {A A2 : Option α} (h : (if b = b2 then A else A2) = some r) (kt : A = some r → J t.toNat ls st (lf_hp s) cl rc rs) (kf : A2 = some r → mj_b sc mj_tx mj_na (mj_rn sc d) hd J Q (is) ft ls st (lf_hp s) cl rc rs) : mj_b sc mj_tx mj_na (mj_rn sc d) hd J Q ((pc, .if_icmp .eq t) :: is) ft ls (.int (lf_i b2) :: .int (lf_i b) :: st) (lf_hp s) cl rc rs := by
  cases b <;> cases b2
  · exact ⟨_, _, st, rfl, fun _ => kt h, fun c => absurd rfl c⟩
  · exact ⟨_, _, st, rfl, fun c => absurd c (show ¬ lf_i false = lf_i true by decide), fun _ => kf h⟩
  · exact ⟨_, _, st, rfl, fun c => absurd c (show ¬ lf_i true = lf_i false by decide), fun _ => kf h⟩
  · exact ⟨_, _, st, rfl, fun _ => kt h, fun c => absurd rfl c⟩
theorem lf_icmpb_ne {b b2 : Bool} {t : Int} {A A2 : Option α} (h : (if b = b2 then A2 else A) = some r) (kt : A = some r → J t.toNat ls st (lf_hp s) cl rc rs) (kf : A2 = some r → mj_b sc mj_tx mj_na (mj_rn sc d) hd J Q (is) ft ls st (lf_hp s) cl rc rs) : mj_b sc mj_tx mj_na (mj_rn sc d) hd J Q ((pc, .if_icmp .ne t) :: is) ft ls (.int (lf_i b2) :: .int (lf_i b) :: st) (lf_hp s) cl rc rs := by
  cases b <;> cases b2
  · exact ⟨_, _, st, rfl, fun c => absurd rfl c, fun _ => kf h⟩
  · exact ⟨_, _, st, rfl, fun _ => kt h, fun c => absurd (show ¬ lf_i false = lf_i true by decide) c⟩
  · exact ⟨_, _, st, rfl, fun _ => kt h, fun c => absurd (show ¬ lf_i true = lf_i false by decide) c⟩
  · exact ⟨_, _, st, rfl, fun c => absurd rfl c, fun _ => kf h⟩
theorem lf_ifnull {a : Nat} {t : Int} (kk : mj_b sc mj_tx mj_na (mj_rn sc d) hd J Q (is) ft ls st (lf_hp s) cl rc rs) : mj_b sc mj_tx mj_na (mj_rn sc d) hd J Q ((pc, .ifnull t) :: is) ft ls (.ref a :: st) (lf_hp s) cl rc rs := ⟨a, st, rfl, kk⟩
theorem lf_ifnonnull {a : Nat} {t : Int} (kk : J t.toNat ls st (lf_hp s) cl rc rs) : mj_b sc mj_tx mj_na (mj_rn sc d) hd J Q ((pc, .ifnonnull t) :: is) ft ls (.ref a :: st) (lf_hp s) cl rc rs := ⟨a, st, rfl, kk⟩
theorem lf_getf {a e ci k n : Nat} {rl : List (Option Nat)} (hs : lf_sh[a]? = some (ci + 4, n, rl)) (he : e = 64 * ci + k) (hk : k < 64) (h1 : rl[k]? = some none) (kk : mj_b sc mj_tx mj_na (mj_rn sc d) hd J Q (is) ft ls (.int (s.1 a k) :: st) (lf_hp s) cl rc rs) : mj_b sc mj_tx mj_na (mj_rn sc d) hd J Q ((pc, .getfield e) :: is) ft ls (.ref a :: st) (lf_hp s) cl rc rs := by
  have e1 : e / 64 = ci := by omega
  have e2 : e % 64 = k := by omega
  refine ⟨a, st, lf_fs rl (s.1 a), .int (s.1 a k), rfl, ?_, ?_, kk⟩
  · rw [e1]; exact lf_get hs
  · rw [e2]; exact lf_fs_int h1
theorem lf_getr {a e ci k n q : Nat} {rl : List (Option Nat)} (hs : lf_sh[a]? = some (ci + 4, n, rl)) (he : e = 64 * ci + k) (hk : k < 64) (h1 : rl[k]? = some (some q)) (kk : mj_b sc mj_tx mj_na (mj_rn sc d) hd J Q (is) ft ls (.ref q :: st) (lf_hp s) cl rc rs) : mj_b sc mj_tx mj_na (mj_rn sc d) hd J Q ((pc, .getfield e) :: is) ft ls (.ref a :: st) (lf_hp s) cl rc rs := by
  have e1 : e / 64 = ci := by omega
  have e2 : e % 64 = k := by omega
  refine ⟨a, st, lf_fs rl (s.1 a), .ref q, rfl, ?_, ?_, kk⟩
  · rw [e1]; exact lf_get hs
  · rw [e2]; exact lf_fs_ref h1
theorem lf_putf {a e ci k n : Nat} {v : Int32} {rl : List (Option Nat)} {A : lf_S → Option α} (h : lf_lt (lf_w s a k v) A = some r) (hs : lf_sh[a]? = some (ci + 4, n, rl)) (he : e = 64 * ci + k) (hk : k < 64) (h1 : rl[k]? = some none) (hn : narrow (mj_ty ci k) (.int v) = .int v) (hf : fits (mj_ty ci k) (.int v) = true) (kk : ∀ s, A s = some r → mj_b sc mj_tx mj_na (mj_rn sc d) hd J Q (is) ft ls st (lf_hp s) cl rc rs) : mj_b sc mj_tx mj_na (mj_rn sc d) hd J Q ((pc, .putfield e) :: is) ft ls (.int v :: .ref a :: st) (lf_hp s) cl rc rs := by
  have e1 : e / 64 = ci := by omega
  have e2 : e % 64 = k := by omega
  refine ⟨.int v, a, st, lf_fs rl (s.1 a), rfl, ?_, ?_, ?_, ?_, rfl, ?_⟩
  · rw [e1]; exact lf_get hs
  · rw [e2]; unfold lf_fs; rw [List.length_mapIdx]; exact (List.getElem?_eq_some_iff.mp h1).1
  · rw [e1, e2]; exact hn
  · rw [e1, e2]; exact hf
  · have h5 := kk _ h
    have h6 := lf_set (s := s) hs (upd (s.1 a) k v)
    rw [e1, e2, lf_fs_set h1]
    exact h6.symm ▸ h5
theorem lf_iald {a n : Nat} {x : Int32} {A : Nat → Option α} {rl : List (Option Nat)} (h : lf_ck x n A = some r) (hs : lf_sh[a]? = some (0, n, rl)) (kk : ∀ k, A k = some r → mj_b sc mj_tx mj_na (mj_rn sc d) hd J Q (is) ft ls (.int (s.1 a k) :: st) (lf_hp s) cl rc rs) : mj_b sc mj_tx mj_na (mj_rn sc d) hd J Q ((pc, .iaload) :: is) ft ls (.int x :: .ref a :: st) (lf_hp s) cl rc rs := ⟨x, a, st, n, s.1 a, rfl, Or.inl (lf_get hs), (lf_ck_some h).1, kk _ (lf_ck_some h).2⟩
theorem lf_iast {a n : Nat} {x v : Int32} {A : lf_S → Option α} {rl : List (Option Nat)} (h : lf_ck x n (fun k => lf_lt (lf_w s a k v) A) = some r) (hs : lf_sh[a]? = some (0, n, rl)) (kk : ∀ s, A s = some r → mj_b sc mj_tx mj_na (mj_rn sc d) hd J Q (is) ft ls st (lf_hp s) cl rc rs) : mj_b sc mj_tx mj_na (mj_rn sc d) hd J Q ((pc, .iastore) :: is) ft ls (.int v :: .int x :: .ref a :: st) (lf_hp s) cl rc rs := ⟨v, x, a, st, n, s.1 a, rfl, lf_get hs, (lf_ck_some h).1, (lf_set (s := s) hs (upd (s.1 a) x.toNatClampNeg v)).symm ▸ kk _ (lf_ck_some h).2⟩
theorem lf_bald {a n : Nat} {x : Int32} {A : Nat → Option α} {rl : List (Option Nat)} (h : lf_ck x n A = some r) (hs : lf_sh[a]? = some (1, n, rl)) (kk : ∀ k, A k = some r → mj_b sc mj_tx mj_na (mj_rn sc d) hd J Q (is) ft ls (.int (s.1 a k) :: st) (lf_hp s) cl rc rs) : mj_b sc mj_tx mj_na (mj_rn sc d) hd J Q ((pc, .baload) :: is) ft ls (.int x :: .ref a :: st) (lf_hp s) cl rc rs := ⟨x, a, st, n, s.1 a, rfl, lf_get hs, (lf_ck_some h).1, kk _ (lf_ck_some h).2⟩
theorem lf_nar {v : Int32} (hz : v = 0 ∨ v = 1) : vp_nar .boolean v = v := by rcases hz with rfl | rfl <;> rfl
theorem lf_bast {a n : Nat} {x v : Int32} {A : lf_S → Option α} {rl : List (Option Nat)} (h : lf_ck x n (fun k => lf_lt (lf_w s a k v) A) = some r) (hs : lf_sh[a]? = some (1, n, rl)) (hz : v = 0 ∨ v = 1) (kk : ∀ s, A s = some r → mj_b sc mj_tx mj_na (mj_rn sc d) hd J Q (is) ft ls st (lf_hp s) cl rc rs) : mj_b sc mj_tx mj_na (mj_rn sc d) hd J Q ((pc, .bastore) :: is) ft ls (.int v :: .int x :: .ref a :: st) (lf_hp s) cl rc rs := ⟨v, x, a, st, n, s.1 a, rfl, lf_get hs, (lf_ck_some h).1, (lf_nar hz).symm ▸ (lf_set (s := s) hs (upd (s.1 a) x.toNatClampNeg v)).symm ▸ kk _ (lf_ck_some h).2⟩
theorem lf_aald {a n : Nat} {x : Int32} {A : Nat → Option α} {rl : List (Option Nat)} {F : Nat → Nat} (h : lf_ck x n A = some r) (hs : lf_sh[a]? = some (3, n, rl)) (hF : ∀ k, k < n → rl.getD k none = some (F k)) (kk : ∀ k, k < n → A k = some r → mj_b sc mj_tx mj_na (mj_rn sc d) hd J Q (is) ft ls (.ref (F k) :: st) (lf_hp s) cl rc rs) : mj_b sc mj_tx mj_na (mj_rn sc d) hd J Q ((pc, .aaload) :: is) ft ls (.int x :: .ref a :: st) (lf_hp s) cl rc rs := by
  obtain ⟨h1, h2⟩ := lf_ck_some h
  have h3 : x.toNatClampNeg < n := by unfold vp_in at h1; omega
  exact ⟨x, a, st, n, _, F x.toNatClampNeg, rfl, lf_get hs, h1, hF _ h3, kk _ h3 h2⟩
theorem lf_lald {a n : Nat} {x : Int32} {A : Nat → Option α} {rl : List (Option Nat)} (h : lf_ck x n A = some r) (hs : lf_sh[a]? = some (2, n, rl)) (kk : ∀ k, A k = some r → mj_b sc mj_tx mj_na (mj_rn sc d) hd J Q (is) ft ls (.long (s.2 k) :: st) (lf_hp s) cl rc rs) : mj_b sc mj_tx mj_na (mj_rn sc d) hd J Q ((pc, .laload) :: is) ft ls (.int x :: .ref a :: st) (lf_hp s) cl rc rs := ⟨x, a, st, n, s.2, rfl, lf_get hs, (lf_ck_some h).1, kk _ (lf_ck_some h).2⟩
theorem lf_alen {a n : Nat} {rl : List (Option Nat)} (hs : lf_sh[a]? = some (0, n, rl)) (kk : mj_b sc mj_tx mj_na (mj_rn sc d) hd J Q (is) ft ls (.int (nI n) :: st) (lf_hp s) cl rc rs) : mj_b sc mj_tx mj_na (mj_rn sc d) hd J Q ((pc, .arraylength) :: is) ft ls (.ref a :: st) (lf_hp s) cl rc rs := ⟨a, st, n, s.1 a, rfl, Or.inl (lf_get hs), kk⟩
theorem lf_slen (kk : mj_b sc mj_tx mj_na (mj_rn sc d) hd J Q (is) ft ls (.int (nI sc.1) :: st) (lf_hp s) cl rc rs) : mj_b sc mj_tx mj_na (mj_rn sc d) hd J Q ((pc, .arraylength) :: is) ft ls (.ref mj_SC :: st) (lf_hp s) cl rc rs := ⟨mj_SC, st, sc.1, sc.2, rfl, Or.inr ⟨rfl, rfl, rfl⟩, kk⟩
theorem lf_sald {x : Int32} {A : Nat → Option α} (h : lf_ck x sc.1 A = some r) (kk : ∀ k, A k = some r → mj_b sc mj_tx mj_na (mj_rn sc d) hd J Q (is) ft ls (.int (sc.2 k) :: st) (lf_hp s) cl rc rs) : mj_b sc mj_tx mj_na (mj_rn sc d) hd J Q ((pc, .iaload) :: is) ft ls (.int x :: .ref mj_SC :: st) (lf_hp s) cl rc rs := ⟨x, mj_SC, st, sc.1, sc.2, rfl, Or.inr ⟨rfl, rfl, rfl⟩, (lf_ck_some h).1, kk _ (lf_ck_some h).2⟩
theorem lf_max {x y : Int32} (hc : Nat.ble ((st.map fun v => v.category).sum) 16 = true) (kk : mj_b sc mj_tx mj_na (mj_rn sc d) hd J Q (is) ft ls (.int (lf_mx x y) :: st) (lf_hp s) cl rc rs) : mj_b sc mj_tx mj_na (mj_rn sc d) hd J Q ((pc, .dup_x1) :: is) ft ls (.int y :: .int x :: st) (lf_hp s) cl rc rs := ⟨x, y, st, rfl, Nat.le_of_ble_eq_true hc, kk⟩
theorem lf_min {x y : Int32} (hc : Nat.ble ((st.map fun v => v.category).sum) 16 = true) (kk : mj_b sc mj_tx mj_na (mj_rn sc d) hd J Q (is) ft ls (.int (lf_mn x y) :: st) (lf_hp s) cl rc rs) : mj_b sc mj_tx mj_na (mj_rn sc d) hd J Q ((pc, .dup_x2) :: is) ft ls (.int y :: .int x :: st) (lf_hp s) cl rc rs := ⟨x, y, st, rfl, Nat.le_of_ble_eq_true hc, kk⟩
def lf_cpk {α : Type} (sp dp n : Int32) (n0 n1 : Nat) (A : Nat → Nat → Nat → Option α) : Option α := if sp < 0 ∨ dp < 0 ∨ n < 0 ∨ n0 < sp.toNatClampNeg + n.toNatClampNeg ∨ n1 < dp.toNatClampNeg + n.toNatClampNeg then none else A sp.toNatClampNeg dp.toNatClampNeg n.toNatClampNeg
theorem lf_copy {a b n0 n1 : Nat} {sp dp n : Int32} {A : lf_S → Option α} {rl rl2 : List (Option Nat)} (h : lf_cpk sp dp n n0 n1 (fun sp dp n => lf_lt (lf_cp s a sp b dp n) A) = some r) (hs : lf_sh[a]? = some (0, n0, rl)) (hs2 : lf_sh[b]? = some (0, n1, rl2)) (hc : Nat.ble ((st.map fun v => v.category).sum) 8 = true) (kk : ∀ s, A s = some r → mj_b sc mj_tx mj_na (mj_rn sc d) hd J Q (is) ft ls st (lf_hp s) cl rc rs) : mj_b sc mj_tx mj_na (mj_rn sc d) hd J Q ((pc, .dup2_x1) :: is) ft ls (.int n :: .int dp :: .ref b :: .int sp :: .ref a :: st) (lf_hp s) cl rc rs := by
  unfold lf_cpk at h
  by_cases c : sp < 0 ∨ dp < 0 ∨ n < 0 ∨ n0 < sp.toNatClampNeg + n.toNatClampNeg ∨ n1 < dp.toNatClampNeg + n.toNatClampNeg
  · rw [if_pos c] at h; cases h
  · rw [if_neg c] at h
    have c1 : ¬ sp < 0 := fun q => c (Or.inl q)
    have c2 : ¬ dp < 0 := fun q => c (Or.inr (Or.inl q))
    have c3 : ¬ n < 0 := fun q => c (Or.inr (Or.inr (Or.inl q)))
    have c4 : ¬ n0 < sp.toNatClampNeg + n.toNatClampNeg := fun q => c (Or.inr (Or.inr (Or.inr (Or.inl q))))
    have c5 : ¬ n1 < dp.toNatClampNeg + n.toNatClampNeg := fun q => c (Or.inr (Or.inr (Or.inr (Or.inr q))))
    exact ⟨n, dp, b, sp, a, st, n0, n1, s.1 a, s.1 b, rfl, lf_get hs, lf_get hs2, c1, c2, c3, Nat.le_of_not_lt c4, Nat.le_of_not_lt c5, Nat.le_of_ble_eq_true hc, (lf_set (s := s) hs2 (va_cpy (s.1 a) (s.1 b) sp.toNatClampNeg dp.toNatClampNeg n.toNatClampNeg)).symm ▸ kk _ h⟩
theorem lf_tx_ne : ∀ t, t < 71 → mj_tx t ≠ [] := by decide +kernel
theorem lf_len {t : Nat} (ht : t < 71) (hc : Nat.ble ((st.map fun v => v.category).sum) 8 = true) (kk : mj_b sc mj_tx mj_na (mj_rn sc d) hd J Q (is) ft ls (.int (nI (mj_tx t).length) :: st) (lf_hp s) cl rc rs) : mj_b sc mj_tx mj_na (mj_rn sc d) hd J Q ((pc, .dup2_x2) :: is) ft ls (.ref (mj_SC + 1 + t) :: st) (lf_hp s) cl rc rs := ⟨t, st, rfl, lf_tx_ne t ht, Nat.le_of_ble_eq_true hc, kk⟩
theorem lf_nat_nI {x : Int32} (h : ¬ x < 0) : x = nI x.toNatClampNeg := by
  have h1 : 0 ≤ x.toInt := by
    rw [Int32.lt_iff_toInt_lt, Int32.toInt_zero] at h; omega
  have h2 : x.toNatClampNeg = x.toInt.toNat := rfl
  rw [← Int32.toInt_inj, h2]
  unfold nI
  have h3 := Int32.toInt_lt x
  rw [Int32.toInt_ofNat_of_lt (by omega)]
  omega
theorem lf_char {t : Nat} {x : Int32} {A : Nat → Option α} (h : lf_ck x (mj_tx t).length A = some r) (hc : Nat.ble ((st.map fun v => v.category).sum) 8 = true) (kk : ∀ k, A k = some r → mj_b sc mj_tx mj_na (mj_rn sc d) hd J Q (is) ft ls (.int ((mj_tx t).getD k 0) :: st) (lf_hp s) cl rc rs) : mj_b sc mj_tx mj_na (mj_rn sc d) hd J Q ((pc, .swap) :: is) ft ls (.int x :: .ref (mj_SC + 1 + t) :: st) (lf_hp s) cl rc rs := by
  obtain ⟨h1, h2⟩ := lf_ck_some h
  have h3 : ¬ x < 0 := fun q => h1 (Or.inl q)
  have h4 : x.toNatClampNeg < (mj_tx t).length := Nat.lt_of_not_le (fun q => h1 (Or.inr q))
  refine ⟨t, x.toNatClampNeg, st, ?_, h4, Nat.le_of_ble_eq_true hc, kk _ h2⟩
  rw [← lf_nat_nI h3]
theorem lf_iret {x : Int32} (kk : Q (.inl (some (.int x))) (lf_hp s) cl) : mj_b sc mj_tx mj_na (mj_rn sc d) hd J Q ((pc, .ireturn) :: is) ft ls [.int x] (lf_hp s) cl rc rs := ⟨x, rfl, kk⟩
theorem lf_lret {x : Int64} (kk : Q (.inl (some (.long x))) (lf_hp s) cl) : mj_b sc mj_tx mj_na (mj_rn sc d) hd J Q ((pc, .lreturn) :: is) ft ls [.long x] (lf_hp s) cl rc rs := ⟨x, rfl, kk⟩
theorem lf_ret (kk : Q (.inl none) (lf_hp s) cl) : mj_b sc mj_tx mj_na (mj_rn sc d) hd J Q ((pc, .return_) :: is) ft ls [] (lf_hp s) cl rc rs := ⟨rfl, kk⟩
theorem lf_callSRi {D j : Nat} {as rest : List Value} {f : Option (Int32)} {A : Int32 → Option α} (h : f.bind A = some r) (hst : st = as.reverse ++ rest) (hn : Nat.beq as.length (mj_na j).2 = true) (hd0 : D ≤ d) (hp : as.all mj_pl = true) (hc : Nat.ble ((rest.map fun v => v.category).sum) 8 = true) (hf : ∀ p, f = some p → lf_ok sc D j as s (some (.int p)) s) (kk : ∀ p, A p = some r → mj_b sc mj_tx mj_na (mj_rn sc d) hd J Q (is) ft ls (.int p :: rest) (lf_hp (s)) cl rc rs) : mj_b sc mj_tx mj_na (mj_rn sc d) hd J Q ((pc, .invokestatic j) :: is) ft ls st (lf_hp s) cl rc rs := by
  obtain ⟨p, h1, h2⟩ := Option.bind_eq_some_iff.mp h
  exact ⟨as, rest, .inl (some (.int p)), lf_hp (s), cl, 0, 0, hst, Nat.eq_of_beq_eq_true hn, hp, Nat.le_of_ble_eq_true hc, Nat.zero_le _, Nat.zero_le _, hf p h1 d hd0 cl, kk p h2⟩
theorem lf_callSRb {D j : Nat} {as rest : List Value} {f : Option (Bool)} {A : Bool → Option α} (h : f.bind A = some r) (hst : st = as.reverse ++ rest) (hn : Nat.beq as.length (mj_na j).2 = true) (hd0 : D ≤ d) (hp : as.all mj_pl = true) (hc : Nat.ble ((rest.map fun v => v.category).sum) 8 = true) (hf : ∀ p, f = some p → lf_ok sc D j as s (some (.int (lf_i p))) s) (kk : ∀ p, A p = some r → mj_b sc mj_tx mj_na (mj_rn sc d) hd J Q (is) ft ls (.int (lf_i p) :: rest) (lf_hp (s)) cl rc rs) : mj_b sc mj_tx mj_na (mj_rn sc d) hd J Q ((pc, .invokestatic j) :: is) ft ls st (lf_hp s) cl rc rs := by
  obtain ⟨p, h1, h2⟩ := Option.bind_eq_some_iff.mp h
  exact ⟨as, rest, .inl (some (.int (lf_i p))), lf_hp (s), cl, 0, 0, hst, Nat.eq_of_beq_eq_true hn, hp, Nat.le_of_ble_eq_true hc, Nat.zero_le _, Nat.zero_le _, hf p h1 d hd0 cl, kk p h2⟩
theorem lf_callSRl {D j : Nat} {as rest : List Value} {f : Option (Int64)} {A : Int64 → Option α} (h : f.bind A = some r) (hst : st = as.reverse ++ rest) (hn : Nat.beq as.length (mj_na j).2 = true) (hd0 : D ≤ d) (hp : as.all mj_pl = true) (hc : Nat.ble ((rest.map fun v => v.category).sum) 8 = true) (hf : ∀ p, f = some p → lf_ok sc D j as s (some (.long p)) s) (kk : ∀ p, A p = some r → mj_b sc mj_tx mj_na (mj_rn sc d) hd J Q (is) ft ls (.long p :: rest) (lf_hp (s)) cl rc rs) : mj_b sc mj_tx mj_na (mj_rn sc d) hd J Q ((pc, .invokestatic j) :: is) ft ls st (lf_hp s) cl rc rs := by
  obtain ⟨p, h1, h2⟩ := Option.bind_eq_some_iff.mp h
  exact ⟨as, rest, .inl (some (.long p)), lf_hp (s), cl, 0, 0, hst, Nat.eq_of_beq_eq_true hn, hp, Nat.le_of_ble_eq_true hc, Nat.zero_le _, Nat.zero_le _, hf p h1 d hd0 cl, kk p h2⟩
theorem lf_callSWi {D j : Nat} {as rest : List Value} {f : Option (Int32 × lf_S)} {A : Int32 × lf_S → Option α} (h : f.bind A = some r) (hst : st = as.reverse ++ rest) (hn : Nat.beq as.length (mj_na j).2 = true) (hd0 : D ≤ d) (hp : as.all mj_pl = true) (hc : Nat.ble ((rest.map fun v => v.category).sum) 8 = true) (hf : ∀ p, f = some p → lf_ok sc D j as s (some (.int p.1)) p.2) (kk : ∀ p, A p = some r → mj_b sc mj_tx mj_na (mj_rn sc d) hd J Q (is) ft ls (.int p.1 :: rest) (lf_hp (p.2)) cl rc rs) : mj_b sc mj_tx mj_na (mj_rn sc d) hd J Q ((pc, .invokestatic j) :: is) ft ls st (lf_hp s) cl rc rs := by
  obtain ⟨p, h1, h2⟩ := Option.bind_eq_some_iff.mp h
  exact ⟨as, rest, .inl (some (.int p.1)), lf_hp (p.2), cl, 0, 0, hst, Nat.eq_of_beq_eq_true hn, hp, Nat.le_of_ble_eq_true hc, Nat.zero_le _, Nat.zero_le _, hf p h1 d hd0 cl, kk p h2⟩
theorem lf_callSWb {D j : Nat} {as rest : List Value} {f : Option (Bool × lf_S)} {A : Bool × lf_S → Option α} (h : f.bind A = some r) (hst : st = as.reverse ++ rest) (hn : Nat.beq as.length (mj_na j).2 = true) (hd0 : D ≤ d) (hp : as.all mj_pl = true) (hc : Nat.ble ((rest.map fun v => v.category).sum) 8 = true) (hf : ∀ p, f = some p → lf_ok sc D j as s (some (.int (lf_i p.1))) p.2) (kk : ∀ p, A p = some r → mj_b sc mj_tx mj_na (mj_rn sc d) hd J Q (is) ft ls (.int (lf_i p.1) :: rest) (lf_hp (p.2)) cl rc rs) : mj_b sc mj_tx mj_na (mj_rn sc d) hd J Q ((pc, .invokestatic j) :: is) ft ls st (lf_hp s) cl rc rs := by
  obtain ⟨p, h1, h2⟩ := Option.bind_eq_some_iff.mp h
  exact ⟨as, rest, .inl (some (.int (lf_i p.1))), lf_hp (p.2), cl, 0, 0, hst, Nat.eq_of_beq_eq_true hn, hp, Nat.le_of_ble_eq_true hc, Nat.zero_le _, Nat.zero_le _, hf p h1 d hd0 cl, kk p h2⟩
theorem lf_callSWl {D j : Nat} {as rest : List Value} {f : Option (Int64 × lf_S)} {A : Int64 × lf_S → Option α} (h : f.bind A = some r) (hst : st = as.reverse ++ rest) (hn : Nat.beq as.length (mj_na j).2 = true) (hd0 : D ≤ d) (hp : as.all mj_pl = true) (hc : Nat.ble ((rest.map fun v => v.category).sum) 8 = true) (hf : ∀ p, f = some p → lf_ok sc D j as s (some (.long p.1)) p.2) (kk : ∀ p, A p = some r → mj_b sc mj_tx mj_na (mj_rn sc d) hd J Q (is) ft ls (.long p.1 :: rest) (lf_hp (p.2)) cl rc rs) : mj_b sc mj_tx mj_na (mj_rn sc d) hd J Q ((pc, .invokestatic j) :: is) ft ls st (lf_hp s) cl rc rs := by
  obtain ⟨p, h1, h2⟩ := Option.bind_eq_some_iff.mp h
  exact ⟨as, rest, .inl (some (.long p.1)), lf_hp (p.2), cl, 0, 0, hst, Nat.eq_of_beq_eq_true hn, hp, Nat.le_of_ble_eq_true hc, Nat.zero_le _, Nat.zero_le _, hf p h1 d hd0 cl, kk p h2⟩
theorem lf_callSWu {D j : Nat} {as rest : List Value} {f : Option (lf_S)} {A : lf_S → Option α} (h : f.bind A = some r) (hst : st = as.reverse ++ rest) (hn : Nat.beq as.length (mj_na j).2 = true) (hd0 : D ≤ d) (hp : as.all mj_pl = true) (hc : Nat.ble ((rest.map fun v => v.category).sum) 8 = true) (hf : ∀ p, f = some p → lf_ok sc D j as s (none) p) (kk : ∀ p, A p = some r → mj_b sc mj_tx mj_na (mj_rn sc d) hd J Q (is) ft ls rest (lf_hp (p)) cl rc rs) : mj_b sc mj_tx mj_na (mj_rn sc d) hd J Q ((pc, .invokestatic j) :: is) ft ls st (lf_hp s) cl rc rs := by
  obtain ⟨p, h1, h2⟩ := Option.bind_eq_some_iff.mp h
  exact ⟨as, rest, .inl (none), lf_hp (p), cl, 0, 0, hst, Nat.eq_of_beq_eq_true hn, hp, Nat.le_of_ble_eq_true hc, Nat.zero_le _, Nat.zero_le _, hf p h1 d hd0 cl, kk p h2⟩
theorem lf_callVRi {a : Nat} {D j : Nat} {as rest : List Value} {f : Option (Int32)} {A : Int32 → Option α} (h : f.bind A = some r) (hst : st = as.reverse ++ .ref a :: rest) (hn : Nat.beq as.length (mj_na j).2 = true) {ci n : Nat} {rl : List (Option Nat)} (hs : lf_sh[a]? = some (ci + 4, n, rl)) (hci : Nat.beq (mj_na j).1 ci = true) (hd0 : D ≤ d) (hp : as.all mj_pl = true) (hc : Nat.ble ((rest.map fun v => v.category).sum) 8 = true) (hf : ∀ p, f = some p → lf_ok sc D j (.ref a :: as) s (some (.int p)) s) (kk : ∀ p, A p = some r → mj_b sc mj_tx mj_na (mj_rn sc d) hd J Q (is) ft ls (.int p :: rest) (lf_hp (s)) cl rc rs) : mj_b sc mj_tx mj_na (mj_rn sc d) hd J Q ((pc, .invokevirtual j) :: is) ft ls st (lf_hp s) cl rc rs := by
  obtain ⟨p, h1, h2⟩ := Option.bind_eq_some_iff.mp h
  have e2 : (mj_na j).1 = ci := Nat.eq_of_beq_eq_true hci
  exact ⟨a, as, rest, lf_fs rl (s.1 a), .inl (some (.int p)), lf_hp (s), cl, 0, 0, hst, Nat.eq_of_beq_eq_true hn, hp, by rw [e2]; exact lf_get hs, Nat.le_of_ble_eq_true hc, Nat.zero_le _, Nat.zero_le _, hf p h1 d hd0 cl, kk p h2⟩
theorem lf_callVRb {a : Nat} {D j : Nat} {as rest : List Value} {f : Option (Bool)} {A : Bool → Option α} (h : f.bind A = some r) (hst : st = as.reverse ++ .ref a :: rest) (hn : Nat.beq as.length (mj_na j).2 = true) {ci n : Nat} {rl : List (Option Nat)} (hs : lf_sh[a]? = some (ci + 4, n, rl)) (hci : Nat.beq (mj_na j).1 ci = true) (hd0 : D ≤ d) (hp : as.all mj_pl = true) (hc : Nat.ble ((rest.map fun v => v.category).sum) 8 = true) (hf : ∀ p, f = some p → lf_ok sc D j (.ref a :: as) s (some (.int (lf_i p))) s) (kk : ∀ p, A p = some r → mj_b sc mj_tx mj_na (mj_rn sc d) hd J Q (is) ft ls (.int (lf_i p) :: rest) (lf_hp (s)) cl rc rs) : mj_b sc mj_tx mj_na (mj_rn sc d) hd J Q ((pc, .invokevirtual j) :: is) ft ls st (lf_hp s) cl rc rs := by
  obtain ⟨p, h1, h2⟩ := Option.bind_eq_some_iff.mp h
  have e2 : (mj_na j).1 = ci := Nat.eq_of_beq_eq_true hci
  exact ⟨a, as, rest, lf_fs rl (s.1 a), .inl (some (.int (lf_i p))), lf_hp (s), cl, 0, 0, hst, Nat.eq_of_beq_eq_true hn, hp, by rw [e2]; exact lf_get hs, Nat.le_of_ble_eq_true hc, Nat.zero_le _, Nat.zero_le _, hf p h1 d hd0 cl, kk p h2⟩
theorem lf_callVRl {a : Nat} {D j : Nat} {as rest : List Value} {f : Option (Int64)} {A : Int64 → Option α} (h : f.bind A = some r) (hst : st = as.reverse ++ .ref a :: rest) (hn : Nat.beq as.length (mj_na j).2 = true) {ci n : Nat} {rl : List (Option Nat)} (hs : lf_sh[a]? = some (ci + 4, n, rl)) (hci : Nat.beq (mj_na j).1 ci = true) (hd0 : D ≤ d) (hp : as.all mj_pl = true) (hc : Nat.ble ((rest.map fun v => v.category).sum) 8 = true) (hf : ∀ p, f = some p → lf_ok sc D j (.ref a :: as) s (some (.long p)) s) (kk : ∀ p, A p = some r → mj_b sc mj_tx mj_na (mj_rn sc d) hd J Q (is) ft ls (.long p :: rest) (lf_hp (s)) cl rc rs) : mj_b sc mj_tx mj_na (mj_rn sc d) hd J Q ((pc, .invokevirtual j) :: is) ft ls st (lf_hp s) cl rc rs := by
  obtain ⟨p, h1, h2⟩ := Option.bind_eq_some_iff.mp h
  have e2 : (mj_na j).1 = ci := Nat.eq_of_beq_eq_true hci
  exact ⟨a, as, rest, lf_fs rl (s.1 a), .inl (some (.long p)), lf_hp (s), cl, 0, 0, hst, Nat.eq_of_beq_eq_true hn, hp, by rw [e2]; exact lf_get hs, Nat.le_of_ble_eq_true hc, Nat.zero_le _, Nat.zero_le _, hf p h1 d hd0 cl, kk p h2⟩
theorem lf_callVWi {a : Nat} {D j : Nat} {as rest : List Value} {f : Option (Int32 × lf_S)} {A : Int32 × lf_S → Option α} (h : f.bind A = some r) (hst : st = as.reverse ++ .ref a :: rest) (hn : Nat.beq as.length (mj_na j).2 = true) {ci n : Nat} {rl : List (Option Nat)} (hs : lf_sh[a]? = some (ci + 4, n, rl)) (hci : Nat.beq (mj_na j).1 ci = true) (hd0 : D ≤ d) (hp : as.all mj_pl = true) (hc : Nat.ble ((rest.map fun v => v.category).sum) 8 = true) (hf : ∀ p, f = some p → lf_ok sc D j (.ref a :: as) s (some (.int p.1)) p.2) (kk : ∀ p, A p = some r → mj_b sc mj_tx mj_na (mj_rn sc d) hd J Q (is) ft ls (.int p.1 :: rest) (lf_hp (p.2)) cl rc rs) : mj_b sc mj_tx mj_na (mj_rn sc d) hd J Q ((pc, .invokevirtual j) :: is) ft ls st (lf_hp s) cl rc rs := by
  obtain ⟨p, h1, h2⟩ := Option.bind_eq_some_iff.mp h
  have e2 : (mj_na j).1 = ci := Nat.eq_of_beq_eq_true hci
  exact ⟨a, as, rest, lf_fs rl (s.1 a), .inl (some (.int p.1)), lf_hp (p.2), cl, 0, 0, hst, Nat.eq_of_beq_eq_true hn, hp, by rw [e2]; exact lf_get hs, Nat.le_of_ble_eq_true hc, Nat.zero_le _, Nat.zero_le _, hf p h1 d hd0 cl, kk p h2⟩
theorem lf_callVWb {a : Nat} {D j : Nat} {as rest : List Value} {f : Option (Bool × lf_S)} {A : Bool × lf_S → Option α} (h : f.bind A = some r) (hst : st = as.reverse ++ .ref a :: rest) (hn : Nat.beq as.length (mj_na j).2 = true) {ci n : Nat} {rl : List (Option Nat)} (hs : lf_sh[a]? = some (ci + 4, n, rl)) (hci : Nat.beq (mj_na j).1 ci = true) (hd0 : D ≤ d) (hp : as.all mj_pl = true) (hc : Nat.ble ((rest.map fun v => v.category).sum) 8 = true) (hf : ∀ p, f = some p → lf_ok sc D j (.ref a :: as) s (some (.int (lf_i p.1))) p.2) (kk : ∀ p, A p = some r → mj_b sc mj_tx mj_na (mj_rn sc d) hd J Q (is) ft ls (.int (lf_i p.1) :: rest) (lf_hp (p.2)) cl rc rs) : mj_b sc mj_tx mj_na (mj_rn sc d) hd J Q ((pc, .invokevirtual j) :: is) ft ls st (lf_hp s) cl rc rs := by
  obtain ⟨p, h1, h2⟩ := Option.bind_eq_some_iff.mp h
  have e2 : (mj_na j).1 = ci := Nat.eq_of_beq_eq_true hci
  exact ⟨a, as, rest, lf_fs rl (s.1 a), .inl (some (.int (lf_i p.1))), lf_hp (p.2), cl, 0, 0, hst, Nat.eq_of_beq_eq_true hn, hp, by rw [e2]; exact lf_get hs, Nat.le_of_ble_eq_true hc, Nat.zero_le _, Nat.zero_le _, hf p h1 d hd0 cl, kk p h2⟩
theorem lf_callVWl {a : Nat} {D j : Nat} {as rest : List Value} {f : Option (Int64 × lf_S)} {A : Int64 × lf_S → Option α} (h : f.bind A = some r) (hst : st = as.reverse ++ .ref a :: rest) (hn : Nat.beq as.length (mj_na j).2 = true) {ci n : Nat} {rl : List (Option Nat)} (hs : lf_sh[a]? = some (ci + 4, n, rl)) (hci : Nat.beq (mj_na j).1 ci = true) (hd0 : D ≤ d) (hp : as.all mj_pl = true) (hc : Nat.ble ((rest.map fun v => v.category).sum) 8 = true) (hf : ∀ p, f = some p → lf_ok sc D j (.ref a :: as) s (some (.long p.1)) p.2) (kk : ∀ p, A p = some r → mj_b sc mj_tx mj_na (mj_rn sc d) hd J Q (is) ft ls (.long p.1 :: rest) (lf_hp (p.2)) cl rc rs) : mj_b sc mj_tx mj_na (mj_rn sc d) hd J Q ((pc, .invokevirtual j) :: is) ft ls st (lf_hp s) cl rc rs := by
  obtain ⟨p, h1, h2⟩ := Option.bind_eq_some_iff.mp h
  have e2 : (mj_na j).1 = ci := Nat.eq_of_beq_eq_true hci
  exact ⟨a, as, rest, lf_fs rl (s.1 a), .inl (some (.long p.1)), lf_hp (p.2), cl, 0, 0, hst, Nat.eq_of_beq_eq_true hn, hp, by rw [e2]; exact lf_get hs, Nat.le_of_ble_eq_true hc, Nat.zero_le _, Nat.zero_le _, hf p h1 d hd0 cl, kk p h2⟩
theorem lf_callVWu {a : Nat} {D j : Nat} {as rest : List Value} {f : Option (lf_S)} {A : lf_S → Option α} (h : f.bind A = some r) (hst : st = as.reverse ++ .ref a :: rest) (hn : Nat.beq as.length (mj_na j).2 = true) {ci n : Nat} {rl : List (Option Nat)} (hs : lf_sh[a]? = some (ci + 4, n, rl)) (hci : Nat.beq (mj_na j).1 ci = true) (hd0 : D ≤ d) (hp : as.all mj_pl = true) (hc : Nat.ble ((rest.map fun v => v.category).sum) 8 = true) (hf : ∀ p, f = some p → lf_ok sc D j (.ref a :: as) s (none) p) (kk : ∀ p, A p = some r → mj_b sc mj_tx mj_na (mj_rn sc d) hd J Q (is) ft ls rest (lf_hp (p)) cl rc rs) : mj_b sc mj_tx mj_na (mj_rn sc d) hd J Q ((pc, .invokevirtual j) :: is) ft ls st (lf_hp s) cl rc rs := by
  obtain ⟨p, h1, h2⟩ := Option.bind_eq_some_iff.mp h
  have e2 : (mj_na j).1 = ci := Nat.eq_of_beq_eq_true hci
  exact ⟨a, as, rest, lf_fs rl (s.1 a), .inl (none), lf_hp (p), cl, 0, 0, hst, Nat.eq_of_beq_eq_true hn, hp, by rw [e2]; exact lf_get hs, Nat.le_of_ble_eq_true hc, Nat.zero_le _, Nat.zero_le _, hf p h1 d hd0 cl, kk p h2⟩
end LFT
