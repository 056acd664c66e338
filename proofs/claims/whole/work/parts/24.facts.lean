def lf_Beds (b : Nat) : Prop := lf_sh[b]? = some (5, 5, [none, some (b + 1), some (b + 2), some (b + 3), some (b + 4)]) ∧ lf_sh[b + 1]? = some (0, 6, []) ∧ lf_sh[b + 2]? = some (0, 6, []) ∧ lf_sh[b + 3]? = some (0, 6, []) ∧ lf_sh[b + 4]? = some (0, 6, [])
theorem lf_Beds_0 {b : Nat} (h : lf_Beds b) : lf_sh[b]? = some (5, 5, [none, some (b + 1), some (b + 2), some (b + 3), some (b + 4)]) := h.1
theorem lf_Beds_1 {b : Nat} (h : lf_Beds b) : lf_sh[b + 1]? = some (0, 6, []) := h.2.1
theorem lf_Beds_2 {b : Nat} (h : lf_Beds b) : lf_sh[b + 2]? = some (0, 6, []) := h.2.2.1
theorem lf_Beds_3 {b : Nat} (h : lf_Beds b) : lf_sh[b + 3]? = some (0, 6, []) := h.2.2.2.1
theorem lf_Beds_4 {b : Nat} (h : lf_Beds b) : lf_sh[b + 4]? = some (0, 6, []) := h.2.2.2.2
def lf_Baskets (b : Nat) : Prop := lf_sh[b]? = some (4, 9, [none, some (b + 1), some (b + 2), some (b + 3), some (b + 4), some (b + 5), some (b + 6), some (b + 7), some (b + 8)]) ∧ lf_sh[b + 1]? = some (0, 5, []) ∧ lf_sh[b + 2]? = some (0, 5, []) ∧ lf_sh[b + 3]? = some (0, 5, []) ∧ lf_sh[b + 4]? = some (0, 5, []) ∧ lf_sh[b + 5]? = some (0, 5, []) ∧ lf_sh[b + 6]? = some (0, 5, []) ∧ lf_sh[b + 7]? = some (0, 30, []) ∧ lf_sh[b + 8]? = some (0, 5, [])
theorem lf_Baskets_0 {b : Nat} (h : lf_Baskets b) : lf_sh[b]? = some (4, 9, [none, some (b + 1), some (b + 2), some (b + 3), some (b + 4), some (b + 5), some (b + 6), some (b + 7), some (b + 8)]) := h.1
theorem lf_Baskets_1 {b : Nat} (h : lf_Baskets b) : lf_sh[b + 1]? = some (0, 5, []) := h.2.1
theorem lf_Baskets_2 {b : Nat} (h : lf_Baskets b) : lf_sh[b + 2]? = some (0, 5, []) := h.2.2.1
theorem lf_Baskets_3 {b : Nat} (h : lf_Baskets b) : lf_sh[b + 3]? = some (0, 5, []) := h.2.2.2.1
theorem lf_Baskets_4 {b : Nat} (h : lf_Baskets b) : lf_sh[b + 4]? = some (0, 5, []) := h.2.2.2.2.1
theorem lf_Baskets_5 {b : Nat} (h : lf_Baskets b) : lf_sh[b + 5]? = some (0, 5, []) := h.2.2.2.2.2.1
theorem lf_Baskets_6 {b : Nat} (h : lf_Baskets b) : lf_sh[b + 6]? = some (0, 5, []) := h.2.2.2.2.2.2.1
theorem lf_Baskets_7 {b : Nat} (h : lf_Baskets b) : lf_sh[b + 7]? = some (0, 30, []) := h.2.2.2.2.2.2.2.1
theorem lf_Baskets_8 {b : Nat} (h : lf_Baskets b) : lf_sh[b + 8]? = some (0, 5, []) := h.2.2.2.2.2.2.2.2
def lf_Hands (b : Nat) : Prop := lf_sh[b]? = some (6, 3, [none, some (b + 1), some (b + 2)]) ∧ lf_sh[b + 1]? = some (0, 5, []) ∧ lf_sh[b + 2]? = some (0, 5, [])
theorem lf_Hands_0 {b : Nat} (h : lf_Hands b) : lf_sh[b]? = some (6, 3, [none, some (b + 1), some (b + 2)]) := h.1
theorem lf_Hands_1 {b : Nat} (h : lf_Hands b) : lf_sh[b + 1]? = some (0, 5, []) := h.2.1
theorem lf_Hands_2 {b : Nat} (h : lf_Hands b) : lf_sh[b + 2]? = some (0, 5, []) := h.2.2
def lf_Orders (b : Nat) : Prop := lf_sh[b]? = some (10, 4, [none, none, some (b + 1), some (b + 2)]) ∧ lf_sh[b + 1]? = some (0, 6, []) ∧ lf_sh[b + 2]? = some (0, 6, [])
theorem lf_Orders_0 {b : Nat} (h : lf_Orders b) : lf_sh[b]? = some (10, 4, [none, none, some (b + 1), some (b + 2)]) := h.1
theorem lf_Orders_1 {b : Nat} (h : lf_Orders b) : lf_sh[b + 1]? = some (0, 6, []) := h.2.1
theorem lf_Orders_2 {b : Nat} (h : lf_Orders b) : lf_sh[b + 2]? = some (0, 6, []) := h.2.2
def lf_Log (b : Nat) : Prop := lf_sh[b]? = some (9, 2, [none, some (b + 1)]) ∧ lf_sh[b + 1]? = some (0, 240, [])
theorem lf_Log_0 {b : Nat} (h : lf_Log b) : lf_sh[b]? = some (9, 2, [none, some (b + 1)]) := h.1
theorem lf_Log_1 {b : Nat} (h : lf_Log b) : lf_sh[b + 1]? = some (0, 240, []) := h.2
def lf_Law (b : Nat) : Prop := lf_sh[b]? = some (8, 7, [none, some (b + 1), some (b + 2), some (b + 3), some (b + 4), none, some (b + 5)]) ∧ lf_sh[b + 1]? = some (0, 12, []) ∧ lf_sh[b + 2]? = some (0, 12, []) ∧ lf_sh[b + 3]? = some (0, 12, []) ∧ lf_sh[b + 4]? = some (0, 400, []) ∧ lf_sh[b + 5]? = some (0, 24, [])
theorem lf_Law_0 {b : Nat} (h : lf_Law b) : lf_sh[b]? = some (8, 7, [none, some (b + 1), some (b + 2), some (b + 3), some (b + 4), none, some (b + 5)]) := h.1
theorem lf_Law_1 {b : Nat} (h : lf_Law b) : lf_sh[b + 1]? = some (0, 12, []) := h.2.1
theorem lf_Law_2 {b : Nat} (h : lf_Law b) : lf_sh[b + 2]? = some (0, 12, []) := h.2.2.1
theorem lf_Law_3 {b : Nat} (h : lf_Law b) : lf_sh[b + 3]? = some (0, 12, []) := h.2.2.2.1
theorem lf_Law_4 {b : Nat} (h : lf_Law b) : lf_sh[b + 4]? = some (0, 400, []) := h.2.2.2.2.1
theorem lf_Law_5 {b : Nat} (h : lf_Law b) : lf_sh[b + 5]? = some (0, 24, []) := h.2.2.2.2.2
def lf_Holt (b : Nat) : Prop := lf_sh[b]? = some (7, 12, [some (b + 1), some (b + 6), some (b + 15), some (b + 18), some (b + 21), some (b + 23), none, none, none, none, none, none]) ∧ lf_Beds (b + 1) ∧ lf_Baskets (b + 6) ∧ lf_Hands (b + 15) ∧ lf_Orders (b + 18) ∧ lf_Log (b + 21) ∧ lf_sh[b + 23]? = some (0, 7, [])
theorem lf_Holt_0 {b : Nat} (h : lf_Holt b) : lf_sh[b]? = some (7, 12, [some (b + 1), some (b + 6), some (b + 15), some (b + 18), some (b + 21), some (b + 23), none, none, none, none, none, none]) := h.1
theorem lf_Holt_1 {b : Nat} (h : lf_Holt b) : lf_Beds (b + 1) := h.2.1
theorem lf_Holt_6 {b : Nat} (h : lf_Holt b) : lf_Baskets (b + 6) := h.2.2.1
theorem lf_Holt_15 {b : Nat} (h : lf_Holt b) : lf_Hands (b + 15) := h.2.2.2.1
theorem lf_Holt_18 {b : Nat} (h : lf_Holt b) : lf_Orders (b + 18) := h.2.2.2.2.1
theorem lf_Holt_21 {b : Nat} (h : lf_Holt b) : lf_Log (b + 21) := h.2.2.2.2.2.1
theorem lf_Holt_23 {b : Nat} (h : lf_Holt b) : lf_sh[b + 23]? = some (0, 7, []) := h.2.2.2.2.2.2
theorem lf_a0 : lf_sh[0]? = some (13, 12, [some 1, some 3, some 10, some 34, some 40, some 64, some 70, some 94, some 100, none, none, none]) := by decide +kernel
theorem lf_a1 : lf_sh[1]? = some (11, 4, [some 2, none, none, none]) := by decide +kernel
theorem lf_a2 : lf_sh[2]? = some (0, 400, []) := by decide +kernel
theorem lf_a3 : lf_sh[3]? = some (12, 9, [none, some 4, some 5, some 6, some 7, none, none, some 8, some 9]) := by decide +kernel
theorem lf_a4 : lf_sh[4]? = some (0, 40, []) := by decide +kernel
theorem lf_a5 : lf_sh[5]? = some (0, 8, []) := by decide +kernel
theorem lf_a6 : lf_sh[6]? = some (0, 8, []) := by decide +kernel
theorem lf_a7 : lf_sh[7]? = some (0, 8, []) := by decide +kernel
theorem lf_a8 : lf_sh[8]? = some (0, 80, []) := by decide +kernel
theorem lf_a9 : lf_sh[9]? = some (0, 7, []) := by decide +kernel
theorem lf_a100 : lf_sh[100]? = some (3, 12, [some 101, some 125, some 149, some 173, some 197, some 221, some 245, some 269, some 293, some 317, some 341, some 365]) := by decide +kernel
theorem lf_a389 : lf_sh[389]? = some (14, 25, [none, some 390, some 391, none, some 392, some 393, none, some 394, none, none, none, none, none, none, some 395, none, none, some 396, some 397, some 398, some 399, some 400, some 401, some 402, some 403]) := by decide +kernel
theorem lf_a390 : lf_sh[390]? = some (0, 766, []) := by decide +kernel
theorem lf_a391 : lf_sh[391]? = some (0, 766, []) := by decide +kernel
theorem lf_a392 : lf_sh[392]? = some (0, 366, []) := by decide +kernel
theorem lf_a393 : lf_sh[393]? = some (0, 4392, []) := by decide +kernel
theorem lf_a394 : lf_sh[394]? = some (0, 400, []) := by decide +kernel
theorem lf_a395 : lf_sh[395]? = some (0, 7, []) := by decide +kernel
theorem lf_a396 : lf_sh[396]? = some (0, 7, []) := by decide +kernel
theorem lf_a397 : lf_sh[397]? = some (0, 64, []) := by decide +kernel
theorem lf_a398 : lf_sh[398]? = some (0, 384, []) := by decide +kernel
theorem lf_a399 : lf_sh[399]? = some (0, 5, []) := by decide +kernel
theorem lf_a400 : lf_sh[400]? = some (0, 49, []) := by decide +kernel
theorem lf_a401 : lf_sh[401]? = some (0, 8, []) := by decide +kernel
theorem lf_a402 : lf_sh[402]? = some (0, 8, []) := by decide +kernel
theorem lf_a403 : lf_sh[403]? = some (1, 450, []) := by decide +kernel
theorem lf_a404 : lf_sh[404]? = some (2, 1, []) := by decide +kernel
theorem lf_Holt_at10 : lf_Holt 10 := ⟨by decide +kernel, ⟨by decide +kernel, by decide +kernel, by decide +kernel, by decide +kernel, by decide +kernel⟩, ⟨by decide +kernel, by decide +kernel, by decide +kernel, by decide +kernel, by decide +kernel, by decide +kernel, by decide +kernel, by decide +kernel, by decide +kernel⟩, ⟨by decide +kernel, by decide +kernel, by decide +kernel⟩, ⟨by decide +kernel, by decide +kernel, by decide +kernel⟩, ⟨by decide +kernel, by decide +kernel⟩, by decide +kernel⟩
theorem lf_Holt_at40 : lf_Holt 40 := ⟨by decide +kernel, ⟨by decide +kernel, by decide +kernel, by decide +kernel, by decide +kernel, by decide +kernel⟩, ⟨by decide +kernel, by decide +kernel, by decide +kernel, by decide +kernel, by decide +kernel, by decide +kernel, by decide +kernel, by decide +kernel, by decide +kernel⟩, ⟨by decide +kernel, by decide +kernel, by decide +kernel⟩, ⟨by decide +kernel, by decide +kernel, by decide +kernel⟩, ⟨by decide +kernel, by decide +kernel⟩, by decide +kernel⟩
theorem lf_Holt_at70 : lf_Holt 70 := ⟨by decide +kernel, ⟨by decide +kernel, by decide +kernel, by decide +kernel, by decide +kernel, by decide +kernel⟩, ⟨by decide +kernel, by decide +kernel, by decide +kernel, by decide +kernel, by decide +kernel, by decide +kernel, by decide +kernel, by decide +kernel, by decide +kernel⟩, ⟨by decide +kernel, by decide +kernel, by decide +kernel⟩, ⟨by decide +kernel, by decide +kernel, by decide +kernel⟩, ⟨by decide +kernel, by decide +kernel⟩, by decide +kernel⟩
theorem lf_Holt_at101 : lf_Holt 101 := ⟨by decide +kernel, ⟨by decide +kernel, by decide +kernel, by decide +kernel, by decide +kernel, by decide +kernel⟩, ⟨by decide +kernel, by decide +kernel, by decide +kernel, by decide +kernel, by decide +kernel, by decide +kernel, by decide +kernel, by decide +kernel, by decide +kernel⟩, ⟨by decide +kernel, by decide +kernel, by decide +kernel⟩, ⟨by decide +kernel, by decide +kernel, by decide +kernel⟩, ⟨by decide +kernel, by decide +kernel⟩, by decide +kernel⟩
theorem lf_Holt_at125 : lf_Holt 125 := ⟨by decide +kernel, ⟨by decide +kernel, by decide +kernel, by decide +kernel, by decide +kernel, by decide +kernel⟩, ⟨by decide +kernel, by decide +kernel, by decide +kernel, by decide +kernel, by decide +kernel, by decide +kernel, by decide +kernel, by decide +kernel, by decide +kernel⟩, ⟨by decide +kernel, by decide +kernel, by decide +kernel⟩, ⟨by decide +kernel, by decide +kernel, by decide +kernel⟩, ⟨by decide +kernel, by decide +kernel⟩, by decide +kernel⟩
theorem lf_Holt_at149 : lf_Holt 149 := ⟨by decide +kernel, ⟨by decide +kernel, by decide +kernel, by decide +kernel, by decide +kernel, by decide +kernel⟩, ⟨by decide +kernel, by decide +kernel, by decide +kernel, by decide +kernel, by decide +kernel, by decide +kernel, by decide +kernel, by decide +kernel, by decide +kernel⟩, ⟨by decide +kernel, by decide +kernel, by decide +kernel⟩, ⟨by decide +kernel, by decide +kernel, by decide +kernel⟩, ⟨by decide +kernel, by decide +kernel⟩, by decide +kernel⟩
theorem lf_Holt_at173 : lf_Holt 173 := ⟨by decide +kernel, ⟨by decide +kernel, by decide +kernel, by decide +kernel, by decide +kernel, by decide +kernel⟩, ⟨by decide +kernel, by decide +kernel, by decide +kernel, by decide +kernel, by decide +kernel, by decide +kernel, by decide +kernel, by decide +kernel, by decide +kernel⟩, ⟨by decide +kernel, by decide +kernel, by decide +kernel⟩, ⟨by decide +kernel, by decide +kernel, by decide +kernel⟩, ⟨by decide +kernel, by decide +kernel⟩, by decide +kernel⟩
theorem lf_Holt_at197 : lf_Holt 197 := ⟨by decide +kernel, ⟨by decide +kernel, by decide +kernel, by decide +kernel, by decide +kernel, by decide +kernel⟩, ⟨by decide +kernel, by decide +kernel, by decide +kernel, by decide +kernel, by decide +kernel, by decide +kernel, by decide +kernel, by decide +kernel, by decide +kernel⟩, ⟨by decide +kernel, by decide +kernel, by decide +kernel⟩, ⟨by decide +kernel, by decide +kernel, by decide +kernel⟩, ⟨by decide +kernel, by decide +kernel⟩, by decide +kernel⟩
theorem lf_Holt_at221 : lf_Holt 221 := ⟨by decide +kernel, ⟨by decide +kernel, by decide +kernel, by decide +kernel, by decide +kernel, by decide +kernel⟩, ⟨by decide +kernel, by decide +kernel, by decide +kernel, by decide +kernel, by decide +kernel, by decide +kernel, by decide +kernel, by decide +kernel, by decide +kernel⟩, ⟨by decide +kernel, by decide +kernel, by decide +kernel⟩, ⟨by decide +kernel, by decide +kernel, by decide +kernel⟩, ⟨by decide +kernel, by decide +kernel⟩, by decide +kernel⟩
theorem lf_Holt_at245 : lf_Holt 245 := ⟨by decide +kernel, ⟨by decide +kernel, by decide +kernel, by decide +kernel, by decide +kernel, by decide +kernel⟩, ⟨by decide +kernel, by decide +kernel, by decide +kernel, by decide +kernel, by decide +kernel, by decide +kernel, by decide +kernel, by decide +kernel, by decide +kernel⟩, ⟨by decide +kernel, by decide +kernel, by decide +kernel⟩, ⟨by decide +kernel, by decide +kernel, by decide +kernel⟩, ⟨by decide +kernel, by decide +kernel⟩, by decide +kernel⟩
theorem lf_Holt_at269 : lf_Holt 269 := ⟨by decide +kernel, ⟨by decide +kernel, by decide +kernel, by decide +kernel, by decide +kernel, by decide +kernel⟩, ⟨by decide +kernel, by decide +kernel, by decide +kernel, by decide +kernel, by decide +kernel, by decide +kernel, by decide +kernel, by decide +kernel, by decide +kernel⟩, ⟨by decide +kernel, by decide +kernel, by decide +kernel⟩, ⟨by decide +kernel, by decide +kernel, by decide +kernel⟩, ⟨by decide +kernel, by decide +kernel⟩, by decide +kernel⟩
theorem lf_Holt_at293 : lf_Holt 293 := ⟨by decide +kernel, ⟨by decide +kernel, by decide +kernel, by decide +kernel, by decide +kernel, by decide +kernel⟩, ⟨by decide +kernel, by decide +kernel, by decide +kernel, by decide +kernel, by decide +kernel, by decide +kernel, by decide +kernel, by decide +kernel, by decide +kernel⟩, ⟨by decide +kernel, by decide +kernel, by decide +kernel⟩, ⟨by decide +kernel, by decide +kernel, by decide +kernel⟩, ⟨by decide +kernel, by decide +kernel⟩, by decide +kernel⟩
theorem lf_Holt_at317 : lf_Holt 317 := ⟨by decide +kernel, ⟨by decide +kernel, by decide +kernel, by decide +kernel, by decide +kernel, by decide +kernel⟩, ⟨by decide +kernel, by decide +kernel, by decide +kernel, by decide +kernel, by decide +kernel, by decide +kernel, by decide +kernel, by decide +kernel, by decide +kernel⟩, ⟨by decide +kernel, by decide +kernel, by decide +kernel⟩, ⟨by decide +kernel, by decide +kernel, by decide +kernel⟩, ⟨by decide +kernel, by decide +kernel⟩, by decide +kernel⟩
theorem lf_Holt_at341 : lf_Holt 341 := ⟨by decide +kernel, ⟨by decide +kernel, by decide +kernel, by decide +kernel, by decide +kernel, by decide +kernel⟩, ⟨by decide +kernel, by decide +kernel, by decide +kernel, by decide +kernel, by decide +kernel, by decide +kernel, by decide +kernel, by decide +kernel, by decide +kernel⟩, ⟨by decide +kernel, by decide +kernel, by decide +kernel⟩, ⟨by decide +kernel, by decide +kernel, by decide +kernel⟩, ⟨by decide +kernel, by decide +kernel⟩, by decide +kernel⟩
theorem lf_Holt_at365 : lf_Holt 365 := ⟨by decide +kernel, ⟨by decide +kernel, by decide +kernel, by decide +kernel, by decide +kernel, by decide +kernel⟩, ⟨by decide +kernel, by decide +kernel, by decide +kernel, by decide +kernel, by decide +kernel, by decide +kernel, by decide +kernel, by decide +kernel, by decide +kernel⟩, ⟨by decide +kernel, by decide +kernel, by decide +kernel⟩, ⟨by decide +kernel, by decide +kernel, by decide +kernel⟩, ⟨by decide +kernel, by decide +kernel⟩, by decide +kernel⟩
theorem lf_Law_at34 : lf_Law 34 := ⟨by decide +kernel, by decide +kernel, by decide +kernel, by decide +kernel, by decide +kernel, by decide +kernel⟩
theorem lf_Law_at64 : lf_Law 64 := ⟨by decide +kernel, by decide +kernel, by decide +kernel, by decide +kernel, by decide +kernel, by decide +kernel⟩
theorem lf_Law_at94 : lf_Law 94 := ⟨by decide +kernel, by decide +kernel, by decide +kernel, by decide +kernel, by decide +kernel, by decide +kernel⟩
theorem lf_pasts : ∀ k, k < 12 → lf_Holt (101 + 24 * k) := by
  intro k hk
  match k, hk with
  | 0, _ => exact lf_Holt_at101
  | 1, _ => exact lf_Holt_at125
  | 2, _ => exact lf_Holt_at149
  | 3, _ => exact lf_Holt_at173
  | 4, _ => exact lf_Holt_at197
  | 5, _ => exact lf_Holt_at221
  | 6, _ => exact lf_Holt_at245
  | 7, _ => exact lf_Holt_at269
  | 8, _ => exact lf_Holt_at293
  | 9, _ => exact lf_Holt_at317
  | 10, _ => exact lf_Holt_at341
  | 11, _ => exact lf_Holt_at365
  | n + 12, h => omega
theorem lf_past_at : ∀ k, k < 12 → ([some 101, some 125, some 149, some 173, some 197, some 221, some 245, some 269, some 293, some 317, some 341, some 365] : List (Option Nat)).getD k none = some (101 + 24 * k) := by decide +kernel
theorem lf_cm8 : Int32.ofInt (-8) = (-8 : Int32) := by decide +kernel
theorem lf_cm1 : Int32.ofInt (-1) = (-1 : Int32) := by decide +kernel
theorem lf_c0 : Int32.ofInt 0 = (0 : Int32) := by decide +kernel
theorem lf_c1 : Int32.ofInt 1 = (1 : Int32) := by decide +kernel
theorem lf_c2 : Int32.ofInt 2 = (2 : Int32) := by decide +kernel
theorem lf_c3 : Int32.ofInt 3 = (3 : Int32) := by decide +kernel
theorem lf_c4 : Int32.ofInt 4 = (4 : Int32) := by decide +kernel
theorem lf_c5 : Int32.ofInt 5 = (5 : Int32) := by decide +kernel
theorem lf_c6 : Int32.ofInt 6 = (6 : Int32) := by decide +kernel
theorem lf_c7 : Int32.ofInt 7 = (7 : Int32) := by decide +kernel
theorem lf_c8 : Int32.ofInt 8 = (8 : Int32) := by decide +kernel
theorem lf_c9 : Int32.ofInt 9 = (9 : Int32) := by decide +kernel
theorem lf_c10 : Int32.ofInt 10 = (10 : Int32) := by decide +kernel
theorem lf_c11 : Int32.ofInt 11 = (11 : Int32) := by decide +kernel
theorem lf_c12 : Int32.ofInt 12 = (12 : Int32) := by decide +kernel
theorem lf_c13 : Int32.ofInt 13 = (13 : Int32) := by decide +kernel
theorem lf_c14 : Int32.ofInt 14 = (14 : Int32) := by decide +kernel
theorem lf_c16 : Int32.ofInt 16 = (16 : Int32) := by decide +kernel
theorem lf_c20 : Int32.ofInt 20 = (20 : Int32) := by decide +kernel
theorem lf_c24 : Int32.ofInt 24 = (24 : Int32) := by decide +kernel
theorem lf_c25 : Int32.ofInt 25 = (25 : Int32) := by decide +kernel
theorem lf_c30 : Int32.ofInt 30 = (30 : Int32) := by decide +kernel
theorem lf_c31 : Int32.ofInt 31 = (31 : Int32) := by decide +kernel
theorem lf_c32 : Int32.ofInt 32 = (32 : Int32) := by decide +kernel
theorem lf_c37 : Int32.ofInt 37 = (37 : Int32) := by decide +kernel
theorem lf_c40 : Int32.ofInt 40 = (40 : Int32) := by decide +kernel
theorem lf_c41 : Int32.ofInt 41 = (41 : Int32) := by decide +kernel
theorem lf_c43 : Int32.ofInt 43 = (43 : Int32) := by decide +kernel
theorem lf_c48 : Int32.ofInt 48 = (48 : Int32) := by decide +kernel
theorem lf_c50 : Int32.ofInt 50 = (50 : Int32) := by decide +kernel
theorem lf_c57 : Int32.ofInt 57 = (57 : Int32) := by decide +kernel
theorem lf_c59 : Int32.ofInt 59 = (59 : Int32) := by decide +kernel
theorem lf_c60 : Int32.ofInt 60 = (60 : Int32) := by decide +kernel
theorem lf_c62 : Int32.ofInt 62 = (62 : Int32) := by decide +kernel
theorem lf_c63 : Int32.ofInt 63 = (63 : Int32) := by decide +kernel
theorem lf_c64 : Int32.ofInt 64 = (64 : Int32) := by decide +kernel
theorem lf_c72 : Int32.ofInt 72 = (72 : Int32) := by decide +kernel
theorem lf_c80 : Int32.ofInt 80 = (80 : Int32) := by decide +kernel
theorem lf_c97 : Int32.ofInt 97 = (97 : Int32) := by decide +kernel
theorem lf_c98 : Int32.ofInt 98 = (98 : Int32) := by decide +kernel
theorem lf_c99 : Int32.ofInt 99 = (99 : Int32) := by decide +kernel
theorem lf_c100 : Int32.ofInt 100 = (100 : Int32) := by decide +kernel
theorem lf_c108 : Int32.ofInt 108 = (108 : Int32) := by decide +kernel
theorem lf_c122 : Int32.ofInt 122 = (122 : Int32) := by decide +kernel
theorem lf_c126 : Int32.ofInt 126 = (126 : Int32) := by decide +kernel
theorem lf_c127 : Int32.ofInt 127 = (127 : Int32) := by decide +kernel
theorem lf_c128 : Int32.ofInt 128 = (128 : Int32) := by decide +kernel
theorem lf_c129 : Int32.ofInt 129 = (129 : Int32) := by decide +kernel
theorem lf_c236 : Int32.ofInt 236 = (236 : Int32) := by decide +kernel
theorem lf_c239 : Int32.ofInt 239 = (239 : Int32) := by decide +kernel
theorem lf_c240 : Int32.ofInt 240 = (240 : Int32) := by decide +kernel
theorem lf_c255 : Int32.ofInt 255 = (255 : Int32) := by decide +kernel
theorem lf_c366 : Int32.ofInt 366 = (366 : Int32) := by decide +kernel
theorem lf_c400 : Int32.ofInt 400 = (400 : Int32) := by decide +kernel
theorem lf_c450 : Int32.ofInt 450 = (450 : Int32) := by decide +kernel
theorem lf_c766 : Int32.ofInt 766 = (766 : Int32) := by decide +kernel
theorem lf_c999 : Int32.ofInt 999 = (999 : Int32) := by decide +kernel
theorem lf_c1000 : Int32.ofInt 1000 = (1000 : Int32) := by decide +kernel
theorem lf_c1001 : Int32.ofInt 1001 = (1001 : Int32) := by decide +kernel
theorem lf_c1002 : Int32.ofInt 1002 = (1002 : Int32) := by decide +kernel
theorem lf_c1003 : Int32.ofInt 1003 = (1003 : Int32) := by decide +kernel
theorem lf_c1004 : Int32.ofInt 1004 = (1004 : Int32) := by decide +kernel
theorem lf_c1005 : Int32.ofInt 1005 = (1005 : Int32) := by decide +kernel
theorem lf_c1006 : Int32.ofInt 1006 = (1006 : Int32) := by decide +kernel
theorem lf_c1007 : Int32.ofInt 1007 = (1007 : Int32) := by decide +kernel
theorem lf_c1008 : Int32.ofInt 1008 = (1008 : Int32) := by decide +kernel
theorem lf_c1009 : Int32.ofInt 1009 = (1009 : Int32) := by decide +kernel
theorem lf_c1010 : Int32.ofInt 1010 = (1010 : Int32) := by decide +kernel
theorem lf_c1011 : Int32.ofInt 1011 = (1011 : Int32) := by decide +kernel
theorem lf_c1012 : Int32.ofInt 1012 = (1012 : Int32) := by decide +kernel
theorem lf_c1013 : Int32.ofInt 1013 = (1013 : Int32) := by decide +kernel
theorem lf_c1014 : Int32.ofInt 1014 = (1014 : Int32) := by decide +kernel
theorem lf_c1015 : Int32.ofInt 1015 = (1015 : Int32) := by decide +kernel
theorem lf_c4026 : Int32.ofInt 4026 = (4026 : Int32) := by decide +kernel
theorem lf_c9999 : Int32.ofInt 9999 = (9999 : Int32) := by decide +kernel
theorem lf_c12345 : Int32.ofInt 12345 = (12345 : Int32) := by decide +kernel
theorem lf_c32767 : Int32.ofInt 32767 = (32767 : Int32) := by decide +kernel
theorem lf_c252645135 : Int32.ofInt 252645135 = (252645135 : Int32) := by decide +kernel
theorem lf_c858993459 : Int32.ofInt 858993459 = (858993459 : Int32) := by decide +kernel
theorem lf_c1103515245 : Int32.ofInt 1103515245 = (1103515245 : Int32) := by decide +kernel
theorem lf_c1431655765 : Int32.ofInt 1431655765 = (1431655765 : Int32) := by decide +kernel
theorem lf_c2000000000 : Int32.ofInt 2000000000 = (2000000000 : Int32) := by decide +kernel
theorem lf_blk {sc : Nat × (Nat → Int32)} {d j pc ft : Nat} {is : mj_B} {Q : mj_Q} {ls st : List Value} {h : mj_H} {cl : Bool} {rc rs : Nat} (hb : mj_bl j pc = some (is, ft)) (H : mj_b sc mj_tx mj_na (mj_rn sc d) (mj_hd j) (lf_wp sc d j Q) Q is ft ls st h cl rc rs) : lf_wp sc d j Q pc ls st h cl rc rs := mj_w_step hb H
theorem lf_loop {α β : Type} {r : α} {f : Option β} {A : β → Option α} {G : Prop} (h : f.bind A = some r) (kk : ∀ p, f = some p → A p = some r → G) : G := by
  obtain ⟨p, h1, h2⟩ := Option.bind_eq_some_iff.mp h
  exact kk p h1 h2
theorem lf_z_some {α : Type} {v : Int32} {A : Option α} {r : α} (h : lf_z v A = some r) : (v = 0 ∨ v = 1) ∧ A = some r := by
  unfold lf_z at h
  by_cases c : v = 0 ∨ v = 1
  · rw [if_pos c] at h; exact ⟨c, h⟩
  · rw [if_neg c] at h; cases h
def lf_rb (x : Int32) : Option Bool := if x = 0 then some false else if x = 1 then some true else none
theorem lf_rb_some {x : Int32} {b : Bool} (h : lf_rb x = some b) : x = lf_i b := by
  unfold lf_rb at h
  by_cases c : x = 0
  · rw [if_pos c] at h; cases h; exact c
  · rw [if_neg c] at h
    by_cases c1 : x = 1
    · rw [if_pos c1] at h; cases h; exact c1
    · rw [if_neg c1] at h; cases h
theorem lf_fb {v : Int32} (hz : v = 0 ∨ v = 1) : fits .boolean (.int v) = true := by rcases hz with rfl | rfl <;> rfl
theorem lf_nb {v : Int32} (hz : v = 0 ∨ v = 1) : narrow .boolean (.int v) = .int v := by rcases hz with rfl | rfl <;> rfl
section
variable {sc : Nat × (Nat → Int32)} {d : Nat} {hd : List (Nat × Nat × Nat × Nat)} {J : mj_J} {Q : mj_Q} {pc ft : Nat} {is : mj_B} {ls st : List Value} {s : lf_S} {cl : Bool} {rc rs : Nat} {α : Type} {r : α}
theorem lf_istoreb {n : Nat} {e : Bool} {A : Bool → Option α} {L : Bool → List Value} (h : lf_lt e A = some r) (h1 : Nat.ble (n + 1) ls.length = true) (h2 : mj_lg ls n = false) (h3 : ∀ x, ls.set n (.int (lf_i x)) = L x) (kk : ∀ x, A x = some r → mj_b sc mj_tx mj_na (mj_rn sc d) hd J Q is ft (L x) st (lf_hp s) cl rc rs) : mj_b sc mj_tx mj_na (mj_rn sc d) hd J Q ((pc, .istore n) :: is) ft ls (.int (lf_i e) :: st) (lf_hp s) cl rc rs := ⟨lf_i e, st, rfl, Nat.le_of_ble_eq_true h1, h2, (h3 e).symm ▸ kk e h⟩
theorem lf_swv {e : Int32} {A : Int32 → Option α} (h : lf_lt e A = some r) (kk : ∀ x, A x = some r → mj_b sc mj_tx mj_na (mj_rn sc d) hd J Q is ft ls (.int x :: st) (lf_hp s) cl rc rs) : mj_b sc mj_tx mj_na (mj_rn sc d) hd J Q is ft ls (.int e :: st) (lf_hp s) cl rc rs := kk e h
end
