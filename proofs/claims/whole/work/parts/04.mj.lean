/-! ===== THE SMALL MACHINE: blocks of resolved instructions over a list of cells; what a method does is said here, and held against the machine once (part sound) ===== -/
-- cells: .inl (kind of array, length and contents), .inr (class by its place in vwCl, fields); a reference k is the k-th cell
abbrev mj_C : Type := (Nat × vp_A) ⊕ (Nat × List Value)
abbrev mj_H : Type := List mj_C
-- how a method ends: with a value or none (inl), or with the x-th exception (inr)
abbrev mj_O : Type := Option Value ⊕ Nat
abbrev mj_B : Type := List (Nat × Instr)
-- method, arguments, heap, clean, cells and slots that it may make, end, heap, clean
abbrev mj_R : Type := Nat → List Value → mj_H → Bool → Nat → Nat → mj_O → mj_H → Bool → Prop
abbrev mj_J : Type := Nat → List Value → List Value → mj_H → Bool → Nat → Nat → Prop
abbrev mj_Q : Type := mj_O → mj_H → Bool → Prop
-- the reference of the script; text i is mj_SC + 1 + i
def mj_SC : Nat := 1099511627776
-- a local that isn't known; an exception's reference
def mj_U : Value := .float 0
def mj_X : Value := .float 1
def mj_pl : Value → Bool
  | .int _ => true
  | .long _ => true
  | .null => true
  | .ref _ => true
  | _ => false
def mj_lg (ls : List Value) : Nat → Bool
  | 0 => false
  | k + 1 => match ls[k]? with
    | some (.long _) => true
    | _ => false
def mj_c0 (c : ClassFile.Cond) (x : Int32) : Prop := match c with
  | .eq => x = 0
  | .ne => ¬ x = 0
  | .lt => x < 0
  | .ge => 0 ≤ x
  | .gt => 0 < x
  | .le => x ≤ 0
def mj_c2 (c : ClassFile.Cond) (x y : Int32) : Prop := match c with
  | .eq => x = y
  | .ne => ¬ x = y
  | .lt => x < y
  | .ge => y ≤ x
  | .gt => y < x
  | .le => x ≤ y
-- int arithmetic of two
def mj_a2 (i : Instr) (x y : Int32) : Option Int32 := match i with
  | .iadd => some (x + y)
  | .isub => some (x - y)
  | .imul => some (x * y)
  | .iand => some (x &&& y)
  | .ior => some (x ||| y)
  | .ixor => some (x ^^^ y)
  | .ishl => some (x <<< (y &&& 31))
  | .ishr => some (x >>> (y &&& 31))
  | .iushr => some (x.toUInt32 >>> (y.toUInt32 &&& Int32.toUInt32 31)).toInt32
  | .idiv => if y = 0 then none else some (x / y)
  | .irem => if y = 0 then none else some (x % y)
  | _ => none
def mj_l2 (i : Instr) (x y : Int64) : Option Int64 := match i with
  | .ladd => some (x + y)
  | .lmul => some (x * y)
  | .ldiv => if y = 0 then none else some (x / y)
  | _ => none
def mj_find (hd : List (Nat × Nat × Nat × Nat)) (pc x : Nat) : Option Nat := match hd with
  | [] => none
  | (a, b, t, y) :: r => if a ≤ pc ∧ pc < b ∧ x = y then some t else mj_find r pc x
-- the types of the fields, by class
def mj_ty (ci : Nat) : Nat → FieldType := match ci with
  | 0 => tyX0
  | 1 => tyX1
  | 2 => tyX2
  | 3 => tyX3
  | 4 => tyX5
  | 5 => tyX7
  | 6 => tyX8
  | 7 => tyX9
  | 8 => tyX10
  | 9 => tyX11
  | _ => tyX12
def mj_n (ci : Nat) : Nat := match ci with
  | 0 => 9
  | 1 => 5
  | 2 => 3
  | 3 => 12
  | 4 => 7
  | 5 => 2
  | 6 => 4
  | 7 => 4
  | 8 => 9
  | 9 => 12
  | _ => 25
def mj_new (ci : Nat) : mj_C := .inr (ci, (List.range (mj_n ci)).map (fun k => defaultValue (mj_ty ci k)))
/-- an array of ints that is read: a cell, or the script -/
def mj_rd (sc : Nat × (Nat → Int32)) (h : mj_H) (a n : Nat) (f : Nat → Int32) : Prop := h[a]? = some (.inl (0, n, .inl f)) ∨ (a = mj_SC ∧ n = sc.1 ∧ f = sc.2)
/-- behind a call that has ended so -/
def mj_af (hd : List (Nat × Nat × Nat × Nat)) (J : mj_J) (Q : mj_Q) (pc : Nat) (ls rest : List Value) (K : List Value → mj_H → Bool → Nat → Nat → Prop) (o : mj_O) (h : mj_H) (cl : Bool) (rc rs : Nat) : Prop :=
  match o with
  | .inl none => K rest h cl rc rs
  | .inl (some v) => K (v :: rest) h cl rc rs
  | .inr x => match mj_find hd pc x with
    | some t => J t ls [mj_X] h cl rc rs
    | none => Q (.inr x) h cl
def mj_b (sc : Nat × (Nat → Int32)) (tx : Nat → List Int32) (na : Nat → Nat × Nat) (R : mj_R) (hd : List (Nat × Nat × Nat × Nat)) (J : mj_J) (Q : mj_Q) : mj_B → Nat → List Value → List Value → mj_H → Bool → Nat → Nat → Prop
  | [], ft, ls, st, h, cl, rc, rs => J ft ls st h cl rc rs
  | (pc, i) :: is, ft, ls, st, h, cl, rc, rs =>
    match i with
    | .iload n => ∃ x, ls[n]? = some (.int x) ∧ mj_b sc tx na R hd J Q is ft ls (.int x :: st) h cl rc rs
    | .lload n => ∃ x, ls[n]? = some (.long x) ∧ mj_b sc tx na R hd J Q is ft ls (.long x :: st) h cl rc rs
    | .aload n => ∃ a, ls[n]? = some (.ref a) ∧ mj_b sc tx na R hd J Q is ft ls (.ref a :: st) h cl rc rs
    | .istore n => ∃ x st', st = .int x :: st' ∧ n < ls.length ∧ mj_lg ls n = false ∧ mj_b sc tx na R hd J Q is ft (ls.set n (.int x)) st' h cl rc rs
    | .astore n => ∃ v st', st = v :: st' ∧ (v = mj_X ∨ ∃ a, v = .ref a) ∧ n < ls.length ∧ mj_lg ls n = false ∧ mj_b sc tx na R hd J Q is ft (ls.set n v) st' h cl rc rs
    | .lstore n => ∃ x st', st = .long x :: st' ∧ n + 1 < ls.length ∧ mj_lg ls n = false ∧ mj_b sc tx na R hd J Q is ft ((ls.set n (.long x)).set (n + 1) mj_U) st' h cl rc rs
    | .iconst v => mj_b sc tx na R hd J Q is ft ls (.int (Int32.ofInt v) :: st) h cl rc rs
    | .ldc2_w n => mj_b sc tx na R hd J Q is ft ls (.long (Int64.ofNat n) :: st) h cl rc rs
    | .ldc n => mj_b sc tx na R hd J Q is ft ls (.ref (mj_SC + 1 + n) :: st) h cl rc rs
    | .iinc n k => ∃ x, ls[n]? = some (.int x) ∧ mj_lg ls n = false ∧ mj_b sc tx na R hd J Q is ft (ls.set n (.int (x + Int32.ofInt k))) st h cl rc rs
    | .ineg => ∃ x st', st = .int x :: st' ∧ mj_b sc tx na R hd J Q is ft ls (.int (-x) :: st') h cl rc rs
    | .i2l => ∃ x st', st = .int x :: st' ∧ mj_b sc tx na R hd J Q is ft ls (.long x.toInt64 :: st') h cl rc rs
    | .l2i => ∃ x st', st = .long x :: st' ∧ mj_b sc tx na R hd J Q is ft ls (.int x.toInt32 :: st') h cl rc rs
    | .lcmp => ∃ x y st', st = .long y :: .long x :: st' ∧ mj_b sc tx na R hd J Q is ft ls (.int (lg_cmp x y) :: st') h cl rc rs
    | .dup => ∃ v st', st = v :: st' ∧ ((∃ x, v = .int x) ∨ ∃ a, v = .ref a) ∧ mj_b sc tx na R hd J Q is ft ls (v :: v :: st') h cl rc rs
    | .pop => ∃ v st', st = v :: st' ∧ ((∃ x, v = .int x) ∨ ∃ a, v = .ref a) ∧ mj_b sc tx na R hd J Q is ft ls st' h cl rc rs
    | .dup2 => ∃ x a st', st = .int x :: .ref a :: st' ∧ mj_b sc tx na R hd J Q is ft ls (.int x :: .ref a :: .int x :: .ref a :: st') h cl rc rs
    | .ladd => ∃ x y z st', st = .long y :: .long x :: st' ∧ mj_l2 i x y = some z ∧ mj_b sc tx na R hd J Q is ft ls (.long z :: st') h cl rc rs
    | .lmul => ∃ x y z st', st = .long y :: .long x :: st' ∧ mj_l2 i x y = some z ∧ mj_b sc tx na R hd J Q is ft ls (.long z :: st') h cl rc rs
    | .ldiv => ∃ x y z st', st = .long y :: .long x :: st' ∧ mj_l2 i x y = some z ∧ mj_b sc tx na R hd J Q is ft ls (.long z :: st') h cl rc rs
    | .goto t => J t.toNat ls st h cl rc rs
    | .ifCond c t => ∃ x st', st = .int x :: st' ∧ (mj_c0 c x → J t.toNat ls st' h cl rc rs) ∧ (¬ mj_c0 c x → mj_b sc tx na R hd J Q is ft ls st' h cl rc rs)
    | .if_icmp c t => ∃ x y st', st = .int y :: .int x :: st' ∧ (mj_c2 c x y → J t.toNat ls st' h cl rc rs) ∧ (¬ mj_c2 c x y → mj_b sc tx na R hd J Q is ft ls st' h cl rc rs)
    | .ifnull _ => ∃ a st', st = .ref a :: st' ∧ mj_b sc tx na R hd J Q is ft ls st' h cl rc rs
    | .ifnonnull t => ∃ a st', st = .ref a :: st' ∧ J t.toNat ls st' h cl rc rs
    | .tableswitch d lo hi offs => ∃ x st', st = .int x :: st' ∧ ((x.toInt < lo ∨ hi < x.toInt) → J d.toNat ls st' h cl rc rs) ∧ (¬ (x.toInt < lo ∨ hi < x.toInt) → ∃ t, offs[(x.toInt - lo).toNat]? = some t ∧ J t.toNat ls st' h cl rc rs)
    | .getfield e => ∃ a st' fs v, st = .ref a :: st' ∧ h[a]? = some (.inr (e / 64, fs)) ∧ fs[e % 64]? = some v ∧ mj_b sc tx na R hd J Q is ft ls (v :: st') h cl rc rs
    | .putfield e => ∃ v a st' fs, st = v :: .ref a :: st' ∧ h[a]? = some (.inr (e / 64, fs)) ∧ e % 64 < fs.length ∧ narrow (mj_ty (e / 64) (e % 64)) v = v ∧ fits (mj_ty (e / 64) (e % 64)) v = true ∧ mj_pl v = true ∧ mj_b sc tx na R hd J Q is ft ls st' (h.set a (.inr (e / 64, fs.set (e % 64) v))) cl rc rs
    | .iaload => ∃ x a st' n f, st = .int x :: .ref a :: st' ∧ mj_rd sc h a n f ∧ vp_in x n ∧ mj_b sc tx na R hd J Q is ft ls (.int (f x.toNatClampNeg) :: st') h cl rc rs
    | .iastore => ∃ v x a st' n f, st = .int v :: .int x :: .ref a :: st' ∧ h[a]? = some (.inl (0, n, .inl f)) ∧ vp_in x n ∧ mj_b sc tx na R hd J Q is ft ls st' (h.set a (.inl (0, n, .inl (upd f x.toNatClampNeg v)))) cl rc rs
    | .baload => ∃ x a st' n f, st = .int x :: .ref a :: st' ∧ h[a]? = some (.inl (1, n, .inl f)) ∧ vp_in x n ∧ mj_b sc tx na R hd J Q is ft ls (.int (f x.toNatClampNeg) :: st') h cl rc rs
    | .bastore => ∃ v x a st' n f, st = .int v :: .int x :: .ref a :: st' ∧ h[a]? = some (.inl (1, n, .inl f)) ∧ vp_in x n ∧ mj_b sc tx na R hd J Q is ft ls st' (h.set a (.inl (1, n, .inl (upd f x.toNatClampNeg (vp_nar .boolean v))))) cl rc rs
    | .laload => ∃ x a st' n f, st = .int x :: .ref a :: st' ∧ h[a]? = some (.inl (2, n, .inr (.inl f))) ∧ vp_in x n ∧ mj_b sc tx na R hd J Q is ft ls (.long (f x.toNatClampNeg) :: st') h cl rc rs
    | .lastore => ∃ v x a st' n f, st = .long v :: .int x :: .ref a :: st' ∧ h[a]? = some (.inl (2, n, .inr (.inl f))) ∧ vp_in x n ∧ mj_b sc tx na R hd J Q is ft ls st' (h.set a (.inl (2, n, .inr (.inl (vp_updL f x.toNatClampNeg v))))) cl rc rs
    | .aaload => ∃ x a st' n f k, st = .int x :: .ref a :: st' ∧ h[a]? = some (.inl (3, n, .inr (.inr (.inr (.inr f))))) ∧ vp_in x n ∧ f x.toNatClampNeg = some k ∧ mj_b sc tx na R hd J Q is ft ls (.ref k :: st') h cl rc rs
    | .aastore => ∃ k x a st' n f vs, st = .ref k :: .int x :: .ref a :: st' ∧ h[a]? = some (.inl (3, n, .inr (.inr (.inr (.inr f))))) ∧ vp_in x n ∧ h[k]? = some (.inr (3, vs)) ∧ mj_b sc tx na R hd J Q is ft ls st' (h.set a (.inl (3, n, .inr (.inr (.inr (.inr (va_up f x.toNatClampNeg (some k)))))))) cl rc rs
    | .arraylength => ∃ a st' n f, st = .ref a :: st' ∧ mj_rd sc h a n f ∧ mj_b sc tx na R hd J Q is ft ls (.int (nI n) :: st') h cl rc rs
    | .new ci => cl = true ∧ 1 ≤ rc ∧ mj_n ci ≤ rs ∧ mj_b sc tx na R hd J Q is ft ls (.ref h.length :: st) (h ++ [mj_new ci]) cl (rc - 1) (rs - mj_n ci)
    | .newarray t => ∃ n st' tg ct, st = .int (nI n) :: st' ∧ n < 10000 ∧ ((t = .int ∧ tg = 0 ∧ ct = .inl (fun _ => 0)) ∨ (t = .boolean ∧ tg = 1 ∧ ct = .inl (fun _ => 0)) ∨ (t = .long ∧ tg = 2 ∧ ct = .inr (.inl (fun _ => 0)))) ∧ cl = true ∧ 1 ≤ rc ∧ n ≤ rs ∧ mj_b sc tx na R hd J Q is ft ls (.ref h.length :: st') (h ++ [.inl (tg, n, ct)]) cl (rc - 1) (rs - n)
    | .anewarray _ => ∃ n st', st = .int (nI n) :: st' ∧ n < 10000 ∧ cl = true ∧ 1 ≤ rc ∧ n ≤ rs ∧ mj_b sc tx na R hd J Q is ft ls (.ref h.length :: st') (h ++ [.inl (3, n, .inr (.inr (.inr (.inr (fun _ => none)))))]) cl (rc - 1) (rs - n)
    | .ireturn => ∃ x, st = [.int x] ∧ Q (.inl (some (.int x))) h cl
    | .lreturn => ∃ x, st = [.long x] ∧ Q (.inl (some (.long x))) h cl
    | .return_ => st = [] ∧ Q (.inl none) h cl
    | .instanceof x => (st.map fun v => v.category).sum ≤ 8 ∧ 1 ≤ rc ∧ 6 ≤ rs ∧ Q (.inr x) h false
    | .invokestatic j => ∃ as rest o h' cl' dc ds, st = as.reverse ++ rest ∧ as.length = (na j).2 ∧ as.all mj_pl = true ∧ (rest.map fun v => v.category).sum ≤ 8 ∧ dc ≤ rc ∧ ds ≤ rs ∧ R j as h cl dc ds o h' cl' ∧
        mj_af hd J Q pc ls rest (fun st' h' cl' rc' rs' => mj_b sc tx na R hd J Q is ft ls st' h' cl' rc' rs') o h' cl' (rc - dc) (rs - ds)
    | .invokevirtual j => ∃ a as rest fs o h' cl' dc ds, st = as.reverse ++ .ref a :: rest ∧ as.length = (na j).2 ∧ as.all mj_pl = true ∧ h[a]? = some (.inr ((na j).1, fs)) ∧ (rest.map fun v => v.category).sum ≤ 8 ∧ dc ≤ rc ∧ ds ≤ rs ∧ R j (.ref a :: as) h cl dc ds o h' cl' ∧
        mj_af hd J Q pc ls rest (fun st' h' cl' rc' rs' => mj_b sc tx na R hd J Q is ft ls st' h' cl' rc' rs') o h' cl' (rc - dc) (rs - ds)
    | .invokespecial j => ∃ a rest o h' cl' dc ds, st = .ref a :: rest ∧ (rest.map fun v => v.category).sum ≤ 8 ∧ dc ≤ rc ∧ ds ≤ rs ∧ R j [.ref a] h cl dc ds o h' cl' ∧
        mj_af hd J Q pc ls rest (fun st' h' cl' rc' rs' => mj_b sc tx na R hd J Q is ft ls st' h' cl' rc' rs') o h' cl' (rc - dc) (rs - ds)
    -- pop2: Object.<init>; dup_x1: Math.max; dup_x2: Math.min; dup2_x1: System.arraycopy of ints; dup2_x2: String.length; swap: String.charAt
    | .pop2 => ∃ a st', st = .ref a :: st' ∧ (st'.map fun v => v.category).sum ≤ 8 ∧ mj_b sc tx na R hd J Q is ft ls st' h cl rc rs
    | .dup_x1 => ∃ x y st', st = .int y :: .int x :: st' ∧ (st'.map fun v => v.category).sum ≤ 16 ∧ mj_b sc tx na R hd J Q is ft ls (.int (if x < y then y else x) :: st') h cl rc rs
    | .dup_x2 => ∃ x y st', st = .int y :: .int x :: st' ∧ (st'.map fun v => v.category).sum ≤ 16 ∧ mj_b sc tx na R hd J Q is ft ls (.int (if y < x then y else x) :: st') h cl rc rs
    | .dup2_x1 => ∃ n dp a sp b st' n0 n1 f g, st = .int n :: .int dp :: .ref a :: .int sp :: .ref b :: st' ∧ h[b]? = some (.inl (0, n0, .inl f)) ∧ h[a]? = some (.inl (0, n1, .inl g)) ∧ ¬ sp < 0 ∧ ¬ dp < 0 ∧ ¬ n < 0 ∧ sp.toNatClampNeg + n.toNatClampNeg ≤ n0 ∧ dp.toNatClampNeg + n.toNatClampNeg ≤ n1 ∧ (st'.map fun v => v.category).sum ≤ 8 ∧
        mj_b sc tx na R hd J Q is ft ls st' (h.set a (.inl (0, n1, .inl (va_cpy f g sp.toNatClampNeg dp.toNatClampNeg n.toNatClampNeg)))) cl rc rs
    | .dup2_x2 => ∃ t st', st = .ref (mj_SC + 1 + t) :: st' ∧ tx t ≠ [] ∧ (st'.map fun v => v.category).sum ≤ 8 ∧ mj_b sc tx na R hd J Q is ft ls (.int (nI (tx t).length) :: st') h cl rc rs
    | .swap => ∃ t k st', st = .int (nI k) :: .ref (mj_SC + 1 + t) :: st' ∧ k < (tx t).length ∧ (st'.map fun v => v.category).sum ≤ 8 ∧ mj_b sc tx na R hd J Q is ft ls (.int ((tx t).getD k 0) :: st') h cl rc rs
    | .iadd => ∃ x y z st', st = .int y :: .int x :: st' ∧ mj_a2 i x y = some z ∧ mj_b sc tx na R hd J Q is ft ls (.int z :: st') h cl rc rs
    | .isub => ∃ x y z st', st = .int y :: .int x :: st' ∧ mj_a2 i x y = some z ∧ mj_b sc tx na R hd J Q is ft ls (.int z :: st') h cl rc rs
    | .imul => ∃ x y z st', st = .int y :: .int x :: st' ∧ mj_a2 i x y = some z ∧ mj_b sc tx na R hd J Q is ft ls (.int z :: st') h cl rc rs
    | .iand => ∃ x y z st', st = .int y :: .int x :: st' ∧ mj_a2 i x y = some z ∧ mj_b sc tx na R hd J Q is ft ls (.int z :: st') h cl rc rs
    | .ior => ∃ x y z st', st = .int y :: .int x :: st' ∧ mj_a2 i x y = some z ∧ mj_b sc tx na R hd J Q is ft ls (.int z :: st') h cl rc rs
    | .ixor => ∃ x y z st', st = .int y :: .int x :: st' ∧ mj_a2 i x y = some z ∧ mj_b sc tx na R hd J Q is ft ls (.int z :: st') h cl rc rs
    | .ishl => ∃ x y z st', st = .int y :: .int x :: st' ∧ mj_a2 i x y = some z ∧ mj_b sc tx na R hd J Q is ft ls (.int z :: st') h cl rc rs
    | .ishr => ∃ x y z st', st = .int y :: .int x :: st' ∧ mj_a2 i x y = some z ∧ mj_b sc tx na R hd J Q is ft ls (.int z :: st') h cl rc rs
    | .iushr => ∃ x y z st', st = .int y :: .int x :: st' ∧ mj_a2 i x y = some z ∧ mj_b sc tx na R hd J Q is ft ls (.int z :: st') h cl rc rs
    | .idiv => ∃ x y z st', st = .int y :: .int x :: st' ∧ mj_a2 i x y = some z ∧ mj_b sc tx na R hd J Q is ft ls (.int z :: st') h cl rc rs
    | .irem => ∃ x y z st', st = .int y :: .int x :: st' ∧ mj_a2 i x y = some z ∧ mj_b sc tx na R hd J Q is ft ls (.int z :: st') h cl rc rs
    | _ => False
-- what a method does: the least thing that its blocks make
def mj_w (sc : Nat × (Nat → Int32)) (tx : Nat → List Int32) (na : Nat → Nat × Nat) (R : mj_R) (hd : List (Nat × Nat × Nat × Nat)) (bl : Nat → Option (mj_B × Nat)) (Q : mj_Q) (pc : Nat) (ls st : List Value) (h : mj_H) (cl : Bool) (rc rs : Nat) : Prop :=
  ∀ P : mj_J, (∀ pc ls st h cl rc rs b, bl pc = some b → mj_b sc tx na R hd P Q b.1 b.2 ls st h cl rc rs → P pc ls st h cl rc rs) → P pc ls st h cl rc rs
