/-! THE PURE MACHINE: shapes of cells, ints, longs, references by the number of a cell; a step's weakest precondition, the least predicate that the steps close -/
abbrev pm_S : Type := List (Nat × Nat)
abbrev pm_I : Type := Nat → Nat → Int32
abbrev pm_L : Type := Nat → Nat → Int64
abbrev pm_R : Type := Nat → Nat → Option Nat
abbrev pm_Q : Type := Option Value → pm_S → pm_I → pm_L → pm_R → Prop
abbrev pm_l : Type := List (Nat × Value)
/-- depth, method, pc, locals, stack, cells and slots made, shapes, ints, longs, references, what is wanted -/
abbrev pm_P : Type := Nat → Nat → Nat → pm_l → List Value → Nat → Nat → pm_S → pm_I → pm_L → pm_R → pm_Q → Prop
/-- an instruction as it is decoded, its length, and what a program resolved of it: two numbers, a whole number, targets -/
abbrev pm_E : Type := Instr × Nat × Nat × Nat × Int × List (Int × Nat)
abbrev pm_X : Type := Nat × (Nat → Int32)
def pm_up {α : Type} (f : Nat → α) (k : Nat) (x : α) : Nat → α := fun j => if j = k then x else f j
def pm_lk : pm_l → Nat → Option Value
  | [], _ => none
  | (i, v) :: r, k => if i = k then some v else pm_lk r k
def pm_rm : pm_l → Nat → pm_l
  | [], _ => []
  | (k, w) :: r, i => if k = i ∨ (k + 1 = i ∧ w.category = 2) then pm_rm r i else (k, w) :: pm_rm r i
/-- put in by its place, so that the list stays in one order -/
def pm_ins : pm_l → Nat → Value → pm_l
  | [], i, v => [(i, v)]
  | (k, w) :: r, i, v => if i < k then (i, v) :: (k, w) :: r else (k, w) :: pm_ins r i v
def pm_pop : Nat → List Value → List Value → Option (List Value × List Value)
  | 0, acc, st => some (acc, st)
  | _ + 1, _, [] => none
  | n + 1, acc, v :: st => pm_pop n (v :: acc) st
def pm_cat (st : List Value) : Nat := (st.map fun v => v.category).sum
def pm_ln (o : Option (Nat × Nat)) (k : Nat) : Nat := match o with
  | some (j, n) => if j = k then n else 0
  | none => 0
def pm_isk (o : Option (Nat × Nat)) (k : Nat) : Prop := match o with
  | some (j, _) => j = k
  | none => False
/-- the length of an array of ints -/
def pm_al (o : Option (Nat × Nat)) : Option Nat := match o with
  | some (1, n) => some n
  | _ => none
def pm_scv (n : Nat) (st : List Value) : Prop := ∀ v ∈ st, ∀ i, v = .ref i → i < n ∨ 1000000 ≤ i
def pm_scl (n : Nat) (l : pm_l) : Prop := ∀ q ∈ l, ∀ i, q.2 = .ref i → i < n ∨ 1000000 ≤ i
def pm_oi (o : Option Value) (k : Int32 → Prop) : Prop := match o with
  | some (.int x) => k x
  | _ => False
def pm_ol (o : Option Value) (k : Int64 → Prop) : Prop := match o with
  | some (.long x) => k x
  | _ => False
def pm_or (o : Option Value) (k : Nat → Prop) : Prop := match o with
  | some (.ref x) => k x
  | _ => False
def pm_cmp (c : Jvm.ClassFile.Cond) (x y : Int32) : Prop := match c with
  | .eq => x = y
  | .ne => ¬ x = y
  | .lt => x < y
  | .ge => y ≤ x
  | .gt => y < x
  | .le => x ≤ y
/-- switch: the first case that is met -/
def pm_sw (x : Int32) (k : Nat → Prop) (d : Nat) : List (Int × Nat) → Prop
  | [] => k d
  | (a, t) :: r => (x = Int32.ofInt a → k t) ∧ (¬ x = Int32.ofInt a → pm_sw x k d r)
def pm_kt : Nat → List Nat
  | 0 => [2, 0, 0, 0, 0]
  | 1 => [2, 2]
  | 2 => [0, 0, 0, 0, 2, 2, 0, 2, 2, 2]
  | 3 => [0, 0, 2, 0]
  | 4 => [0, 2, 2, 2]
  | 5 => [0, 2, 2, 2, 2, 2, 2, 0, 0, 0, 2, 2, 2, 2, 2, 2]
  | 6 => [0, 0, 2]
  | 7 => [2, 0, 2, 2, 2, 2, 2, 1, 2, 2, 2, 2, 2, 2, 2]
  | 8 => [0, 0, 0, 0, 2, 2, 2, 2, 2, 2, 0, 0, 0, 0, 0, 2, 2, 2, 2, 2, 2, 2, 2, 0, 0, 0, 2, 2, 2, 2, 0, 0, 0, 2, 2, 2, 2, 0, 2, 2, 2, 0, 0, 2, 2, 2, 2, 1, 0, 0, 0, 0, 0, 0, 0, 0, 2, 2, 2, 2, 2, 2, 2, 2, 2, 2, 2, 2, 2, 0, 2, 2, 2, 2, 2]
  | _ => []
/-- what a method makes: cells, slots -/
def pm_cst : Nat → Nat × Nat
  | 0 => (1, 20)
  | 22 => (5, 320)
  | 29 => (1, 100)
  | 44 => (3, 30)
  | 48 => (11, 84)
  | 69 => (1, 60)
  | 74 => (125, 3600)
  | 121 => (60, 4000)
  | 227 => (200, 8000)
  | _ => (0, 0)
def pm_mx (mi : Nat) : Nat := ([1, 1, 1, 6, 7, 5, 2, 3, 1, 2, 4, 4, 6, 5, 3, 5, 4, 6, 4, 5, 4, 3, 1, 1, 4, 2, 6, 9, 3, 1, 2, 3, 2, 2, 4, 1, 1, 4, 1, 1, 6, 4, 4, 1, 3, 1, 4, 2, 2, 2, 2, 7, 2, 3, 3, 3, 2, 5, 4, 4, 3, 3, 3, 4, 1, 3, 4, 3, 3, 1, 1, 4, 3, 3, 3, 6, 3, 4, 4, 4, 2, 3, 2, 2, 7, 1, 1, 2, 1, 1, 2, 2, 4, 1, 3, 3, 3, 3, 3, 3, 3, 6, 1, 1, 4, 2, 4, 2, 4, 6, 3, 8, 3, 1, 1, 1, 1, 3, 4, 4, 4, 1, 4, 4, 3, 2, 2, 2, 7, 5, 3, 4, 5, 2, 1, 1, 2, 4, 1, 2, 2, 1, 2, 2, 3, 4, 2, 2, 3, 2, 1, 1, 5, 1, 2, 3, 8, 4, 2, 4, 4, 5, 4, 3, 5, 3, 2, 5, 3, 3, 2, 2, 3, 4, 2, 3, 2, 2, 2, 2, 1, 1, 5, 6, 5, 4, 5, 4, 3, 4, 7, 6, 5, 5, 5, 3, 3, 3, 2, 4, 2, 2, 2, 3, 3, 3, 3, 4, 3, 4, 4, 2, 4, 2, 2, 5, 4, 5, 3, 7, 2, 2, 1, 1, 1, 2, 3, 4] : List Nat).getD mi 0
/-- the arrays of numbers that stand there from the start: the script, and two of the class's own -/
def pm_fa (X : pm_X) (r : Nat) : pm_X :=
  if r = 1000000 then X else if r = 1000001 then (7, fun j => ([-1, 0, 0, 0, 1, 2, 3] : List Int32).getD j 0)
  else if r = 1000002 then (21, fun j => ([10, 11, 12, 0, 20, 0, 30, 0, 0, 0, 0, 40, 50, 51, 0, 0, 0, 60, 71, 70, 0] : List Int32).getD j 0) else (0, fun _ => 0)
/-- the bytes of the words -/
def pm_fs (r : Nat) : List Int32 :=
  if r = 1000020 then [108, 111, 117, 100, 101, 114] else if r = 1000021 then [115, 111, 102, 116, 101, 114]
  else if r = 1000022 then [115, 116, 101, 112] else if r = 1000023 then [119, 97, 107, 101] else if r = 1000024 then [112, 97, 121] else []
def pm_cont (P : pm_P) (d mi pc : Nat) (l : pm_l) (rest : List Value) (c s : Nat) (Q : pm_Q) : pm_Q := fun r sh I L R => P d mi pc l (r.toList ++ rest) c s sh I L R Q
/-- a call of a method of the program: its arguments, the receiver among them -/
def pm_call (C P : pm_P) (d mi pc : Nat) (l : pm_l) (callee : Nat) (args rest : List Value) (c s : Nat) (sh : pm_S) (I : pm_I) (L : pm_L) (R : pm_R) (Q : pm_Q) : Prop := match d with
  | 0 => False
  | d' + 1 => c + (pm_cst callee).1 ≤ (pm_cst mi).1 ∧ s + (pm_cst callee).2 ≤ (pm_cst mi).2 ∧ ((pm_cst callee).1 = 0 ∨ (pm_scl sh.length l ∧ pm_scv sh.length rest)) ∧ pm_cat rest ≤ 8 ∧ pm_cat args ≤ pm_mx callee ∧
      C d' callee 0 (lv_args 0 args) [] 0 0 sh I L R (pm_cont P (d' + 1) mi pc l rest (c + (pm_cst callee).1) (s + (pm_cst callee).2) Q)
def pm_ret (v : Int) (x : Int32) : Prop :=
  if v = 0 then True else if v = 1 then x = 0 ∨ x = 1 else if v = 2 then vp_nar .char x = x else vp_nar .byte x = x
/-- room for one more cell of n slots -/
def pm_rm1 (mi c s n : Nat) (sh : pm_S) (l : pm_l) (rest : List Value) : Prop :=
  c + 1 ≤ (pm_cst mi).1 ∧ s + n ≤ (pm_cst mi).2 ∧ n ≤ 100000 ∧ sh.length < 1000000 ∧ pm_scl sh.length l ∧ pm_scv sh.length rest
def pm_nf3 (r : Nat) : Prop := r ≠ 1000003
def pm_isS (r : Nat) : Prop := 1000010 ≤ r ∧ r < 1000015
def pm_isB (r : Nat) : Prop := 1000020 ≤ r ∧ r < 1000025
def pm_isA (r : Nat) : Prop := r = 1000000 ∨ r = 1000001 ∨ r = 1000002
def pm_rcv (sh : pm_S) (v : Int) (r : Nat) : Prop := if v < 0 then pm_isS r else sh[r]? = some (0, v.toNat)
def pm_step (X : pm_X) (C P : pm_P) (e : pm_E) (d mi pc : Nat) (l : pm_l) (st : List Value) (c s : Nat) (sh : pm_S) (I : pm_I) (L : pm_L) (R : pm_R) (Q : pm_Q) : Prop :=
  match e with
  | (ins, n, a, b, v, t) =>
    match ins with
    | .iload_n _ => pm_oi (pm_lk l a) (fun x => P d mi (pc + n) l (.int x :: st) c s sh I L R Q)
    | .iload _ => pm_oi (pm_lk l a) (fun x => P d mi (pc + n) l (.int x :: st) c s sh I L R Q)
    | .lload_n _ => pm_ol (pm_lk l a) (fun x => P d mi (pc + n) l (.long x :: st) c s sh I L R Q)
    | .lload _ => pm_ol (pm_lk l a) (fun x => P d mi (pc + n) l (.long x :: st) c s sh I L R Q)
    | .aload_n _ => pm_or (pm_lk l a) (fun x => P d mi (pc + n) l (.ref x :: st) c s sh I L R Q)
    | .aload _ => pm_or (pm_lk l a) (fun x => P d mi (pc + n) l (.ref x :: st) c s sh I L R Q)
    | .istore_n _ => (match st with | .int x :: rest => P d mi (pc + n) (pm_ins (pm_rm l a) a (.int x)) (rest) c s sh I L R Q | _ => False)
    | .istore _ => (match st with | .int x :: rest => P d mi (pc + n) (pm_ins (pm_rm l a) a (.int x)) (rest) c s sh I L R Q | _ => False)
    | .astore_n _ => (match st with | .ref x :: rest => P d mi (pc + n) (pm_ins (pm_rm l a) a (.ref x)) (rest) c s sh I L R Q | _ => False)
    | .astore _ => (match st with | .ref x :: rest => P d mi (pc + n) (pm_ins (pm_rm l a) a (.ref x)) (rest) c s sh I L R Q | _ => False)
    | .iconst _ => P d mi (pc + n) l (.int (Int32.ofInt v) :: st) c s sh I L R Q
    | .bipush _ => P d mi (pc + n) l (.int (Int32.ofInt v) :: st) c s sh I L R Q
    | .sipush _ => P d mi (pc + n) l (.int (Int32.ofInt v) :: st) c s sh I L R Q
    | .lconst _ => P d mi (pc + n) l (.long (Int64.ofInt v) :: st) c s sh I L R Q
    | .ldc _ => if a = 0 then P d mi (pc + n) l (.int (Int32.ofInt v) :: st) c s sh I L R Q else P d mi (pc + n) l (.ref (1000010 + b) :: st) c s sh I L R Q
    | .ldc_w _ => if a = 0 then P d mi (pc + n) l (.int (Int32.ofInt v) :: st) c s sh I L R Q else P d mi (pc + n) l (.ref (1000010 + b) :: st) c s sh I L R Q
    | .ldc2_w _ => P d mi (pc + n) l (.long (Int64.ofInt v) :: st) c s sh I L R Q
    | .getfield _ => (match st with | .ref r :: rest => if v = -1 then pm_isS r ∧ P d mi (pc + n) l (.ref (r + 10) :: rest) c s sh I L R Q else if v = -2 then pm_isS r ∧ P d mi (pc + n) l (.int 0 :: rest) c s sh I L R Q else if v = 2 then sh[r]? = some (0, a) ∧ P d mi (pc + n) l (va_rf (R r b) :: rest) c s sh I L R Q else sh[r]? = some (0, a) ∧ P d mi (pc + n) l (.int (I r b) :: rest) c s sh I L R Q | _ => False)
    | .putfield _ => (match st with | .int x :: .ref r :: rest => sh[r]? = some (0, a) ∧ v ≠ 2 ∧ (v = 1 → x = 0 ∨ x = 1) ∧ P d mi (pc + n) l (rest) c s sh (pm_up I r (pm_up (I r) b x)) L R Q | .ref x :: .ref r :: rest => sh[r]? = some (0, a) ∧ v = 2 ∧ x < sh.length ∧ P d mi (pc + n) l (rest) c s sh I L (pm_up R r (pm_up (R r) b (some x))) Q | _ => False)
    | .getstatic _ => if v = 0 then P d mi (pc + n) l (.int (Int32.ofNat a) :: st) c s sh I L R Q else P d mi (pc + n) l (.ref a :: st) c s sh I L R Q
    | .iaload => (match st with | .int i :: .ref r :: rest => if a = 0 then vp_in i (pm_ln sh[r]? 1) ∧ P d mi (pc + n) l (.int (I r i.toNatClampNeg) :: rest) c s sh I L R Q else vp_in i (pm_fa X r).1 ∧ P d mi (pc + n) l (.int ((pm_fa X r).2 i.toNatClampNeg) :: rest) c s sh I L R Q | _ => False)
    | .iastore => (match st with | .int x :: .int i :: .ref r :: rest => vp_in i (pm_ln sh[r]? 1) ∧ P d mi (pc + n) l (rest) c s sh (pm_up I r (pm_up (I r) i.toNatClampNeg x)) L R Q | _ => False)
    | .baload => (match st with | .int i :: .ref r :: rest => if a = 0 then vp_in i (pm_ln sh[r]? 2) ∧ P d mi (pc + n) l (.int (I r i.toNatClampNeg) :: rest) c s sh I L R Q else vp_in i (pm_fs r).length ∧ P d mi (pc + n) l (.int ((pm_fs r).getD i.toNatClampNeg 0) :: rest) c s sh I L R Q | _ => False)
    | .bastore => (match st with | .int x :: .int i :: .ref r :: rest => vp_in i (pm_ln sh[r]? 2) ∧ P d mi (pc + n) l (rest) c s sh (pm_up I r (pm_up (I r) i.toNatClampNeg (vp_nar .boolean x))) L R Q | _ => False)
    | .laload => (match st with | .int i :: .ref r :: rest => vp_in i (pm_ln sh[r]? 3) ∧ P d mi (pc + n) l (.long (L r i.toNatClampNeg) :: rest) c s sh I L R Q | _ => False)
    | .lastore => (match st with | .long x :: .int i :: .ref r :: rest => vp_in i (pm_ln sh[r]? 3) ∧ P d mi (pc + n) l (rest) c s sh I (pm_up L r (pm_up (L r) i.toNatClampNeg x)) R Q | _ => False)
    | .aaload => (match st with | .int i :: .ref r :: rest => vp_in i (pm_ln sh[r]? a) ∧ 4 ≤ a ∧ P d mi (pc + n) l (va_rf (R r i.toNatClampNeg) :: rest) c s sh I L R Q | _ => False)
    | .aastore => (match st with | .ref x :: .int i :: .ref r :: rest => vp_in i (pm_ln sh[r]? a) ∧ 4 ≤ a ∧ sh[x]? = some (0, a - 4) ∧ P d mi (pc + n) l (rest) c s sh I L (pm_up R r (pm_up (R r) i.toNatClampNeg (some x))) Q | _ => False)
    | .arraylength => (match st with | .ref r :: rest => if a = 0 then (match pm_al sh[r]? with | some k => P d mi (pc + n) l (.int (Int32.ofNat k) :: rest) c s sh I L R Q | none => False) else if a = 1 then pm_isA r ∧ P d mi (pc + n) l (.int (Int32.ofNat (pm_fa X r).1) :: rest) c s sh I L R Q else pm_isB r ∧ P d mi (pc + n) l (.int (Int32.ofNat (pm_fs r).length) :: rest) c s sh I L R Q | _ => False)
    | .iadd => (match st with | .int y :: .int x :: rest => P d mi (pc + n) l (.int (x + y) :: rest) c s sh I L R Q | _ => False)
    | .isub => (match st with | .int y :: .int x :: rest => P d mi (pc + n) l (.int (x - y) :: rest) c s sh I L R Q | _ => False)
    | .imul => (match st with | .int y :: .int x :: rest => P d mi (pc + n) l (.int (x * y) :: rest) c s sh I L R Q | _ => False)
    | .iand => (match st with | .int y :: .int x :: rest => P d mi (pc + n) l (.int (x &&& y) :: rest) c s sh I L R Q | _ => False)
    | .ior => (match st with | .int y :: .int x :: rest => P d mi (pc + n) l (.int (x ||| y) :: rest) c s sh I L R Q | _ => False)
    | .ixor => (match st with | .int y :: .int x :: rest => P d mi (pc + n) l (.int (x ^^^ y) :: rest) c s sh I L R Q | _ => False)
    | .ishl => (match st with | .int y :: .int x :: rest => P d mi (pc + n) l (.int (x <<< (y &&& 31)) :: rest) c s sh I L R Q | _ => False)
    | .ishr => (match st with | .int y :: .int x :: rest => P d mi (pc + n) l (.int (x >>> (y &&& 31)) :: rest) c s sh I L R Q | _ => False)
    | .idiv => (match st with | .int y :: .int x :: rest => ¬ y = 0 ∧ P d mi (pc + n) l (.int (x / y) :: rest) c s sh I L R Q | _ => False)
    | .irem => (match st with | .int y :: .int x :: rest => ¬ y = 0 ∧ P d mi (pc + n) l (.int (x % y) :: rest) c s sh I L R Q | _ => False)
    | .ineg => (match st with | .int x :: rest => P d mi (pc + n) l (.int (-x) :: rest) c s sh I L R Q | _ => False)
    | .land => (match st with | .long y :: .long x :: rest => P d mi (pc + n) l (.long (x &&& y) :: rest) c s sh I L R Q | _ => False)
    | .lor => (match st with | .long y :: .long x :: rest => P d mi (pc + n) l (.long (x ||| y) :: rest) c s sh I L R Q | _ => False)
    | .lshl => (match st with | .int y :: .long x :: rest => P d mi (pc + n) l (.long (x <<< (y.toInt64 &&& 63)) :: rest) c s sh I L R Q | _ => False)
    | .i2l => (match st with | .int x :: rest => P d mi (pc + n) l (.long x.toInt64 :: rest) c s sh I L R Q | _ => False)
    | .l2i => (match st with | .long x :: rest => P d mi (pc + n) l (.int x.toInt32 :: rest) c s sh I L R Q | _ => False)
    | .i2b => (match st with | .int x :: rest => P d mi (pc + n) l (.int x.toInt8.toInt32 :: rest) c s sh I L R Q | _ => False)
    | .i2s => (match st with | .int x :: rest => P d mi (pc + n) l (.int x.toInt16.toInt32 :: rest) c s sh I L R Q | _ => False)
    | .i2c => (match st with | .int x :: rest => P d mi (pc + n) l (.int (x.toUInt32 % 65536).toInt32 :: rest) c s sh I L R Q | _ => False)
    | .lcmp => (match st with | .long y :: .long x :: rest => P d mi (pc + n) l (.int (lg_cmp x y) :: rest) c s sh I L R Q | _ => False)
    | .iinc _ _ => pm_oi (pm_lk l a) (fun x => P d mi (pc + n) (pm_ins (pm_rm l a) a (.int (x + Int32.ofInt v))) (st) c s sh I L R Q)
    | .dup => (match st with | x :: rest => x.category = 1 ∧ P d mi (pc + n) l (x :: x :: rest) c s sh I L R Q | _ => False)
    | .dup2 => (match st with | x :: y :: rest => x.category = 1 ∧ y.category = 1 ∧ P d mi (pc + n) l (x :: y :: x :: y :: rest) c s sh I L R Q | _ => False)
    | .pop => (match st with | x :: rest => x.category = 1 ∧ P d mi (pc + n) l (rest) c s sh I L R Q | _ => False)
    | .goto _ => P d mi a l (st) c s sh I L R Q
    | .ifCond cd _ => (match st with | .int x :: rest => (pm_cmp cd x 0 → P d mi a l (rest) c s sh I L R Q) ∧ (¬ pm_cmp cd x 0 → P d mi (pc + n) l (rest) c s sh I L R Q) | _ => False)
    | .if_icmp cd _ => (match st with | .int y :: .int x :: rest => (pm_cmp cd x y → P d mi a l (rest) c s sh I L R Q) ∧ (¬ pm_cmp cd x y → P d mi (pc + n) l (rest) c s sh I L R Q) | _ => False)
    | .tableswitch _ _ _ _ => (match st with | .int x :: rest => pm_sw x (fun k => P d mi k l (rest) c s sh I L R Q) a t | _ => False)
    | .lookupswitch _ _ => (match st with | .int x :: rest => pm_sw x (fun k => P d mi k l (rest) c s sh I L R Q) a t | _ => False)
    | .newarray _ => (match st with | .int x :: rest => 0 ≤ x ∧ pm_rm1 mi c s x.toNatClampNeg sh l rest ∧ P d mi (pc + n) l (.ref sh.length :: rest) (c + 1) (s + x.toNatClampNeg) (sh ++ [(a, x.toNatClampNeg)]) (pm_up I sh.length (fun _ => 0)) (pm_up L sh.length (fun _ => 0)) (pm_up R sh.length (fun _ => none)) Q | _ => False)
    | .anewarray _ => (match st with | .int x :: rest => 0 ≤ x ∧ pm_rm1 mi c s x.toNatClampNeg sh l rest ∧ P d mi (pc + n) l (.ref sh.length :: rest) (c + 1) (s + x.toNatClampNeg) (sh ++ [(a, x.toNatClampNeg)]) (pm_up I sh.length (fun _ => 0)) (pm_up L sh.length (fun _ => 0)) (pm_up R sh.length (fun _ => none)) Q | _ => False)
    | .new _ => pm_rm1 mi c s b sh l st ∧ P d mi (pc + n) l (.ref sh.length :: st) (c + 1) (s + b) (sh ++ [(0, a)]) (pm_up I sh.length (fun _ => 0)) (pm_up L sh.length (fun _ => 0)) (pm_up R sh.length (fun _ => none)) Q
    | .invokevirtual _ => (match pm_pop b [] st with | some (as, .ref r :: rest) => pm_rcv sh v r ∧ pm_call C P d mi (pc + n) l a (.ref r :: as) rest c s sh I L R Q | _ => False)
    | .invokespecial _ => if v = -1 then (match st with | .ref r :: rest => pm_nf3 r ∧ 1 ≤ d ∧ pm_cat rest ≤ 8 ∧ P d mi (pc + n) l (rest) c s sh I L R Q | _ => False) else (match pm_pop b [] st with | some (as, .ref r :: rest) => pm_nf3 r ∧ pm_call C P d mi (pc + n) l a (.ref r :: as) rest c s sh I L R Q | _ => False)
    | .invokestatic _ => if v = 0 then (match pm_pop b [] st with | some (as, rest) => pm_call C P d mi (pc + n) l a as rest c s sh I L R Q | _ => False) else if v = 1 then (match st with | .int y :: .int x :: rest => 1 ≤ d ∧ pm_cat rest ≤ 8 ∧ P d mi (pc + n) l (.int (if x < y then y else x) :: rest) c s sh I L R Q | _ => False) else if v = 2 then (match st with | .int y :: .int x :: rest => 1 ≤ d ∧ pm_cat rest ≤ 8 ∧ P d mi (pc + n) l (.int (if y < x then y else x) :: rest) c s sh I L R Q | _ => False) else if v = 3 then (match st with | .int x :: rest => 1 ≤ d ∧ pm_cat rest ≤ 8 ∧ P d mi (pc + n) l (.int (if 0 ≤ x then x else 0 - x) :: rest) c s sh I L R Q | _ => False) else if v = 4 then (match st with | .int k :: .int dp :: .ref r2 :: .int sp :: .ref r1 :: rest => 1 ≤ d ∧ pm_cat rest ≤ 8 ∧ pm_isk sh[r1]? 1 ∧ pm_isk sh[r2]? 1 ∧ ¬ sp < 0 ∧ ¬ dp < 0 ∧ ¬ k < 0 ∧ sp.toNatClampNeg + k.toNatClampNeg ≤ pm_ln sh[r1]? 1 ∧ dp.toNatClampNeg + k.toNatClampNeg ≤ pm_ln sh[r2]? 1 ∧ P d mi (pc + n) l (rest) c s sh (pm_up I r2 (va_cpy (I r1) (I r2) sp.toNatClampNeg dp.toNatClampNeg k.toNatClampNeg)) L R Q | _ => False) else (match st with | .int k :: .int dp :: .ref r2 :: .int sp :: .ref r1 :: rest => 1 ≤ d ∧ pm_cat rest ≤ 8 ∧ pm_isk sh[r1]? 3 ∧ pm_isk sh[r2]? 3 ∧ ¬ sp < 0 ∧ ¬ dp < 0 ∧ ¬ k < 0 ∧ sp.toNatClampNeg + k.toNatClampNeg ≤ pm_ln sh[r1]? 3 ∧ dp.toNatClampNeg + k.toNatClampNeg ≤ pm_ln sh[r2]? 3 ∧ P d mi (pc + n) l (rest) c s sh I (pm_up L r2 (va_cpy (L r1) (L r2) sp.toNatClampNeg dp.toNatClampNeg k.toNatClampNeg)) R Q | _ => False)
    | .ireturn => (match st with | [.int x] => pm_ret v x ∧ Q (some (.int x)) sh I L R | _ => False)
    | .lreturn => (match st with | [.long x] => Q (some (.long x)) sh I L R | _ => False)
    | .areturn => (match st with | [.ref x] => Q (some (.ref x)) sh I L R | _ => False)
    | .return_ => (match st with | [] => Q none sh I L R | _ => False)
    | _ => False
