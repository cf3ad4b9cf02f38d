/-! the equations of the pure steps -/
def pm_inl : List Nat → Nat → Bool
  | [], _ => false
  | a :: l, k => if k = a then true else pm_inl l k
theorem inl_nil {k : Nat} : pm_inl [] k = false := rfl
theorem inl_cons {a k : Nat} {l : List Nat} : pm_inl (a :: l) k = if k = a then true else pm_inl l k := rfl
def pm_rno (X : pm_X) (stops : List Nat) (n : Nat) (o : Option pm_E) : pm_P := fun d mi pc l st c z sh I L R Q => match o with
  | some e => pm_step X (pm_wp X) (pm_run X stops n) e d mi pc l st c z sh I L R Q
  | none => False
def pm_oin (st : List Value) (k : Nat → List Value → Prop) : Prop := match st with
  | .ref r :: rest => k r rest
  | _ => False
theorem oin_ref {r : Nat} {rest : List Value} {k : Nat → List Value → Prop} : pm_oin (.ref r :: rest) k = k r rest := rfl
section PMS
variable {X : pm_X} {C P : pm_P} {n a b : Nat} {v : Int} {t : List (Int × Nat)} {d mi pc : Nat} {l : pm_l} {st rest : List Value} {c z : Nat} {sh : pm_S} {I : pm_I} {L : pm_L} {R : pm_R} {Q : pm_Q}
theorem st_iload_n {k : Fin 4} : pm_step X C P (.iload_n k, n, a, b, v, t) d mi pc l (st) c z sh I L R Q = (pm_oi (pm_lk l a) (fun x => P d mi (pc + n) l (.int x :: st) c z sh I L R Q)) := rfl
theorem st_iload {k : Nat} : pm_step X C P (.iload k, n, a, b, v, t) d mi pc l (st) c z sh I L R Q = (pm_oi (pm_lk l a) (fun x => P d mi (pc + n) l (.int x :: st) c z sh I L R Q)) := rfl
theorem st_lload_n {k : Fin 4} : pm_step X C P (.lload_n k, n, a, b, v, t) d mi pc l (st) c z sh I L R Q = (pm_ol (pm_lk l a) (fun x => P d mi (pc + n) l (.long x :: st) c z sh I L R Q)) := rfl
theorem st_aload_n {k : Fin 4} : pm_step X C P (.aload_n k, n, a, b, v, t) d mi pc l (st) c z sh I L R Q = (pm_or (pm_lk l a) (fun x => P d mi (pc + n) l (.ref x :: st) c z sh I L R Q)) := rfl
theorem st_aload {k : Nat} : pm_step X C P (.aload k, n, a, b, v, t) d mi pc l (st) c z sh I L R Q = (pm_or (pm_lk l a) (fun x => P d mi (pc + n) l (.ref x :: st) c z sh I L R Q)) := rfl
theorem st_istore_n {k : Fin 4} {x : Int32} : pm_step X C P (.istore_n k, n, a, b, v, t) d mi pc l (.int x :: rest) c z sh I L R Q = (P d mi (pc + n) (pm_ins (pm_rm l a) a (.int x)) (rest) c z sh I L R Q) := rfl
theorem st_istore {k : Nat} {x : Int32} : pm_step X C P (.istore k, n, a, b, v, t) d mi pc l (.int x :: rest) c z sh I L R Q = (P d mi (pc + n) (pm_ins (pm_rm l a) a (.int x)) (rest) c z sh I L R Q) := rfl
theorem st_astore_n {k : Fin 4} {x : Nat} : pm_step X C P (.astore_n k, n, a, b, v, t) d mi pc l (.ref x :: rest) c z sh I L R Q = (P d mi (pc + n) (pm_ins (pm_rm l a) a (.ref x)) (rest) c z sh I L R Q) := rfl
theorem st_astore {k : Nat} {x : Nat} : pm_step X C P (.astore k, n, a, b, v, t) d mi pc l (.ref x :: rest) c z sh I L R Q = (P d mi (pc + n) (pm_ins (pm_rm l a) a (.ref x)) (rest) c z sh I L R Q) := rfl
theorem st_iconst {k : Int} : pm_step X C P (.iconst k, n, a, b, v, t) d mi pc l (st) c z sh I L R Q = (P d mi (pc + n) l (.int (Int32.ofInt v) :: st) c z sh I L R Q) := rfl
theorem st_bipush {k : Int} : pm_step X C P (.bipush k, n, a, b, v, t) d mi pc l (st) c z sh I L R Q = (P d mi (pc + n) l (.int (Int32.ofInt v) :: st) c z sh I L R Q) := rfl
theorem st_sipush {k : Int} : pm_step X C P (.sipush k, n, a, b, v, t) d mi pc l (st) c z sh I L R Q = (P d mi (pc + n) l (.int (Int32.ofInt v) :: st) c z sh I L R Q) := rfl
theorem st_lconst {k : Fin 2} : pm_step X C P (.lconst k, n, a, b, v, t) d mi pc l (st) c z sh I L R Q = (P d mi (pc + n) l (.long (Int64.ofInt v) :: st) c z sh I L R Q) := rfl
theorem st_ldc {k : Nat} : pm_step X C P (.ldc k, n, a, b, v, t) d mi pc l (st) c z sh I L R Q = (if a = 0 then P d mi (pc + n) l (.int (Int32.ofInt v) :: st) c z sh I L R Q else P d mi (pc + n) l (.ref (1000010 + b) :: st) c z sh I L R Q) := rfl
theorem st_ldc_w {k : Nat} : pm_step X C P (.ldc_w k, n, a, b, v, t) d mi pc l (st) c z sh I L R Q = (if a = 0 then P d mi (pc + n) l (.int (Int32.ofInt v) :: st) c z sh I L R Q else P d mi (pc + n) l (.ref (1000010 + b) :: st) c z sh I L R Q) := rfl
theorem st_ldc2_w {k : Nat} : pm_step X C P (.ldc2_w k, n, a, b, v, t) d mi pc l (st) c z sh I L R Q = (P d mi (pc + n) l (.long (Int64.ofInt v) :: st) c z sh I L R Q) := rfl
theorem st_getfield {k r : Nat} : pm_step X C P (.getfield k, n, a, b, v, t) d mi pc l (.ref r :: rest) c z sh I L R Q = (if v = -1 then pm_isS r ∧ P d mi (pc + n) l (.ref (r + 10) :: rest) c z sh I L R Q else if v = -2 then pm_isS r ∧ P d mi (pc + n) l (.int 0 :: rest) c z sh I L R Q else if v = 2 then sh[r]? = some (0, a) ∧ P d mi (pc + n) l (va_rf (R r b) :: rest) c z sh I L R Q else sh[r]? = some (0, a) ∧ P d mi (pc + n) l (.int (I r b) :: rest) c z sh I L R Q) := rfl
theorem st_putfieldI {k r : Nat} {x : Int32} : pm_step X C P (.putfield k, n, a, b, v, t) d mi pc l (.int x :: .ref r :: rest) c z sh I L R Q = (sh[r]? = some (0, a) ∧ v ≠ 2 ∧ (v = 1 → x = 0 ∨ x = 1) ∧ P d mi (pc + n) l (rest) c z sh (pm_up I r (pm_up (I r) b x)) L R Q) := rfl
theorem st_putfieldR {k r : Nat} {x : Nat} : pm_step X C P (.putfield k, n, a, b, v, t) d mi pc l (.ref x :: .ref r :: rest) c z sh I L R Q = (sh[r]? = some (0, a) ∧ v = 2 ∧ x < sh.length ∧ P d mi (pc + n) l (rest) c z sh I L (pm_up R r (pm_up (R r) b (some x))) Q) := rfl
theorem st_getstatic {k : Nat} : pm_step X C P (.getstatic k, n, a, b, v, t) d mi pc l (st) c z sh I L R Q = (if v = 0 then P d mi (pc + n) l (.int (Int32.ofNat a) :: st) c z sh I L R Q else P d mi (pc + n) l (.ref a :: st) c z sh I L R Q) := rfl
theorem st_iaload {r : Nat} {i : Int32} : pm_step X C P (.iaload, n, a, b, v, t) d mi pc l (.int i :: .ref r :: rest) c z sh I L R Q = (if a = 0 then vp_in i (pm_ln sh[r]? 1) ∧ P d mi (pc + n) l (.int (I r i.toNatClampNeg) :: rest) c z sh I L R Q else vp_in i (pm_fa X r).1 ∧ P d mi (pc + n) l (.int ((pm_fa X r).2 i.toNatClampNeg) :: rest) c z sh I L R Q) := rfl
theorem st_iastore {r : Nat} {i x : Int32} : pm_step X C P (.iastore, n, a, b, v, t) d mi pc l (.int x :: .int i :: .ref r :: rest) c z sh I L R Q = (vp_in i (pm_ln sh[r]? 1) ∧ P d mi (pc + n) l (rest) c z sh (pm_up I r (pm_up (I r) i.toNatClampNeg x)) L R Q) := rfl
theorem st_baload {r : Nat} {i : Int32} : pm_step X C P (.baload, n, a, b, v, t) d mi pc l (.int i :: .ref r :: rest) c z sh I L R Q = (if a = 0 then vp_in i (pm_ln sh[r]? 2) ∧ P d mi (pc + n) l (.int (I r i.toNatClampNeg) :: rest) c z sh I L R Q else vp_in i (pm_fs r).length ∧ P d mi (pc + n) l (.int ((pm_fs r).getD i.toNatClampNeg 0) :: rest) c z sh I L R Q) := rfl
theorem st_bastore {r : Nat} {i x : Int32} : pm_step X C P (.bastore, n, a, b, v, t) d mi pc l (.int x :: .int i :: .ref r :: rest) c z sh I L R Q = (vp_in i (pm_ln sh[r]? 2) ∧ P d mi (pc + n) l (rest) c z sh (pm_up I r (pm_up (I r) i.toNatClampNeg (vp_nar .boolean x))) L R Q) := rfl
theorem st_laload {r : Nat} {i : Int32} : pm_step X C P (.laload, n, a, b, v, t) d mi pc l (.int i :: .ref r :: rest) c z sh I L R Q = (vp_in i (pm_ln sh[r]? 3) ∧ P d mi (pc + n) l (.long (L r i.toNatClampNeg) :: rest) c z sh I L R Q) := rfl
theorem st_lastore {r : Nat} {i : Int32} {x : Int64} : pm_step X C P (.lastore, n, a, b, v, t) d mi pc l (.long x :: .int i :: .ref r :: rest) c z sh I L R Q = (vp_in i (pm_ln sh[r]? 3) ∧ P d mi (pc + n) l (rest) c z sh I (pm_up L r (pm_up (L r) i.toNatClampNeg x)) R Q) := rfl
theorem st_aaload {r : Nat} {i : Int32} : pm_step X C P (.aaload, n, a, b, v, t) d mi pc l (.int i :: .ref r :: rest) c z sh I L R Q = (vp_in i (pm_ln sh[r]? a) ∧ 4 ≤ a ∧ P d mi (pc + n) l (va_rf (R r i.toNatClampNeg) :: rest) c z sh I L R Q) := rfl
theorem st_aastore {r x : Nat} {i : Int32} : pm_step X C P (.aastore, n, a, b, v, t) d mi pc l (.ref x :: .int i :: .ref r :: rest) c z sh I L R Q = (vp_in i (pm_ln sh[r]? a) ∧ 4 ≤ a ∧ sh[x]? = some (0, a - 4) ∧ P d mi (pc + n) l (rest) c z sh I L (pm_up R r (pm_up (R r) i.toNatClampNeg (some x))) Q) := rfl
theorem st_arraylength {r : Nat} : pm_step X C P (.arraylength, n, a, b, v, t) d mi pc l (.ref r :: rest) c z sh I L R Q = (if a = 0 then (match pm_al sh[r]? with | some k => P d mi (pc + n) l (.int (Int32.ofNat k) :: rest) c z sh I L R Q | none => False) else if a = 1 then pm_isA r ∧ P d mi (pc + n) l (.int (Int32.ofNat (pm_fa X r).1) :: rest) c z sh I L R Q else pm_isB r ∧ P d mi (pc + n) l (.int (Int32.ofNat (pm_fs r).length) :: rest) c z sh I L R Q) := rfl
theorem st_iadd {x y : Int32} : pm_step X C P (.iadd, n, a, b, v, t) d mi pc l (.int y :: .int x :: rest) c z sh I L R Q = (P d mi (pc + n) l (.int (x + y) :: rest) c z sh I L R Q) := rfl
theorem st_isub {x y : Int32} : pm_step X C P (.isub, n, a, b, v, t) d mi pc l (.int y :: .int x :: rest) c z sh I L R Q = (P d mi (pc + n) l (.int (x - y) :: rest) c z sh I L R Q) := rfl
theorem st_imul {x y : Int32} : pm_step X C P (.imul, n, a, b, v, t) d mi pc l (.int y :: .int x :: rest) c z sh I L R Q = (P d mi (pc + n) l (.int (x * y) :: rest) c z sh I L R Q) := rfl
theorem st_iand {x y : Int32} : pm_step X C P (.iand, n, a, b, v, t) d mi pc l (.int y :: .int x :: rest) c z sh I L R Q = (P d mi (pc + n) l (.int (x &&& y) :: rest) c z sh I L R Q) := rfl
theorem st_ior {x y : Int32} : pm_step X C P (.ior, n, a, b, v, t) d mi pc l (.int y :: .int x :: rest) c z sh I L R Q = (P d mi (pc + n) l (.int (x ||| y) :: rest) c z sh I L R Q) := rfl
theorem st_ixor {x y : Int32} : pm_step X C P (.ixor, n, a, b, v, t) d mi pc l (.int y :: .int x :: rest) c z sh I L R Q = (P d mi (pc + n) l (.int (x ^^^ y) :: rest) c z sh I L R Q) := rfl
theorem st_ishl {x y : Int32} : pm_step X C P (.ishl, n, a, b, v, t) d mi pc l (.int y :: .int x :: rest) c z sh I L R Q = (P d mi (pc + n) l (.int (x <<< (y &&& 31)) :: rest) c z sh I L R Q) := rfl
theorem st_ishr {x y : Int32} : pm_step X C P (.ishr, n, a, b, v, t) d mi pc l (.int y :: .int x :: rest) c z sh I L R Q = (P d mi (pc + n) l (.int (x >>> (y &&& 31)) :: rest) c z sh I L R Q) := rfl
theorem st_idiv {x y : Int32} : pm_step X C P (.idiv, n, a, b, v, t) d mi pc l (.int y :: .int x :: rest) c z sh I L R Q = (¬ y = 0 ∧ P d mi (pc + n) l (.int (x / y) :: rest) c z sh I L R Q) := rfl
theorem st_irem {x y : Int32} : pm_step X C P (.irem, n, a, b, v, t) d mi pc l (.int y :: .int x :: rest) c z sh I L R Q = (¬ y = 0 ∧ P d mi (pc + n) l (.int (x % y) :: rest) c z sh I L R Q) := rfl
theorem st_ineg {x : Int32} : pm_step X C P (.ineg, n, a, b, v, t) d mi pc l (.int x :: rest) c z sh I L R Q = (P d mi (pc + n) l (.int (-x) :: rest) c z sh I L R Q) := rfl
theorem st_land {x y : Int64} : pm_step X C P (.land, n, a, b, v, t) d mi pc l (.long y :: .long x :: rest) c z sh I L R Q = (P d mi (pc + n) l (.long (x &&& y) :: rest) c z sh I L R Q) := rfl
theorem st_lor {x y : Int64} : pm_step X C P (.lor, n, a, b, v, t) d mi pc l (.long y :: .long x :: rest) c z sh I L R Q = (P d mi (pc + n) l (.long (x ||| y) :: rest) c z sh I L R Q) := rfl
theorem st_lshl {x : Int64} {y : Int32} : pm_step X C P (.lshl, n, a, b, v, t) d mi pc l (.int y :: .long x :: rest) c z sh I L R Q = (P d mi (pc + n) l (.long (x <<< (y.toInt64 &&& 63)) :: rest) c z sh I L R Q) := rfl
theorem st_i2l {x : Int32} : pm_step X C P (.i2l, n, a, b, v, t) d mi pc l (.int x :: rest) c z sh I L R Q = (P d mi (pc + n) l (.long x.toInt64 :: rest) c z sh I L R Q) := rfl
theorem st_l2i {x : Int64} : pm_step X C P (.l2i, n, a, b, v, t) d mi pc l (.long x :: rest) c z sh I L R Q = (P d mi (pc + n) l (.int x.toInt32 :: rest) c z sh I L R Q) := rfl
theorem st_i2b {x : Int32} : pm_step X C P (.i2b, n, a, b, v, t) d mi pc l (.int x :: rest) c z sh I L R Q = (P d mi (pc + n) l (.int x.toInt8.toInt32 :: rest) c z sh I L R Q) := rfl
theorem st_i2s {x : Int32} : pm_step X C P (.i2s, n, a, b, v, t) d mi pc l (.int x :: rest) c z sh I L R Q = (P d mi (pc + n) l (.int x.toInt16.toInt32 :: rest) c z sh I L R Q) := rfl
theorem st_i2c {x : Int32} : pm_step X C P (.i2c, n, a, b, v, t) d mi pc l (.int x :: rest) c z sh I L R Q = (P d mi (pc + n) l (.int (x.toUInt32 % 65536).toInt32 :: rest) c z sh I L R Q) := rfl
theorem st_lcmp {x y : Int64} : pm_step X C P (.lcmp, n, a, b, v, t) d mi pc l (.long y :: .long x :: rest) c z sh I L R Q = (P d mi (pc + n) l (.int (lg_cmp x y) :: rest) c z sh I L R Q) := rfl
theorem st_iinc {k : Nat} {w : Int} : pm_step X C P (.iinc k w, n, a, b, v, t) d mi pc l (st) c z sh I L R Q = (pm_oi (pm_lk l a) (fun x => P d mi (pc + n) (pm_ins (pm_rm l a) a (.int (x + Int32.ofInt v))) (st) c z sh I L R Q)) := rfl
theorem st_dupI {x : Int32} : pm_step X C P (.dup, n, a, b, v, t) d mi pc l (.int x :: rest) c z sh I L R Q = ((1 = 1) ∧ P d mi (pc + n) l (.int x :: .int x :: rest) c z sh I L R Q) := rfl
theorem st_dupR {x : Nat} : pm_step X C P (.dup, n, a, b, v, t) d mi pc l (.ref x :: rest) c z sh I L R Q = ((1 = 1) ∧ P d mi (pc + n) l (.ref x :: .ref x :: rest) c z sh I L R Q) := rfl
theorem st_dup2 {x : Int32} {y : Nat} : pm_step X C P (.dup2, n, a, b, v, t) d mi pc l (.int x :: .ref y :: rest) c z sh I L R Q = ((1 = 1) ∧ (1 = 1) ∧ P d mi (pc + n) l (.int x :: .ref y :: .int x :: .ref y :: rest) c z sh I L R Q) := rfl
theorem st_pop {x : Int32} : pm_step X C P (.pop, n, a, b, v, t) d mi pc l (.int x :: rest) c z sh I L R Q = ((1 = 1) ∧ P d mi (pc + n) l (rest) c z sh I L R Q) := rfl
theorem st_goto {k : Int} : pm_step X C P (.goto k, n, a, b, v, t) d mi pc l (st) c z sh I L R Q = (P d mi a l (st) c z sh I L R Q) := rfl
theorem st_if_eq {k : Int} {x : Int32} : pm_step X C P (.ifCond .eq k, n, a, b, v, t) d mi pc l (.int x :: rest) c z sh I L R Q = ((x = 0 → P d mi a l (rest) c z sh I L R Q) ∧ (¬ (x = 0) → P d mi (pc + n) l (rest) c z sh I L R Q)) := rfl
theorem st_icmp_eq {k : Int} {x y : Int32} : pm_step X C P (.if_icmp .eq k, n, a, b, v, t) d mi pc l (.int y :: .int x :: rest) c z sh I L R Q = ((x = y → P d mi a l (rest) c z sh I L R Q) ∧ (¬ (x = y) → P d mi (pc + n) l (rest) c z sh I L R Q)) := rfl
theorem st_if_ne {k : Int} {x : Int32} : pm_step X C P (.ifCond .ne k, n, a, b, v, t) d mi pc l (.int x :: rest) c z sh I L R Q = ((¬ x = 0 → P d mi a l (rest) c z sh I L R Q) ∧ (¬ (¬ x = 0) → P d mi (pc + n) l (rest) c z sh I L R Q)) := rfl
theorem st_icmp_ne {k : Int} {x y : Int32} : pm_step X C P (.if_icmp .ne k, n, a, b, v, t) d mi pc l (.int y :: .int x :: rest) c z sh I L R Q = ((¬ x = y → P d mi a l (rest) c z sh I L R Q) ∧ (¬ (¬ x = y) → P d mi (pc + n) l (rest) c z sh I L R Q)) := rfl
theorem st_if_lt {k : Int} {x : Int32} : pm_step X C P (.ifCond .lt k, n, a, b, v, t) d mi pc l (.int x :: rest) c z sh I L R Q = ((x < 0 → P d mi a l (rest) c z sh I L R Q) ∧ (¬ (x < 0) → P d mi (pc + n) l (rest) c z sh I L R Q)) := rfl
theorem st_icmp_lt {k : Int} {x y : Int32} : pm_step X C P (.if_icmp .lt k, n, a, b, v, t) d mi pc l (.int y :: .int x :: rest) c z sh I L R Q = ((x < y → P d mi a l (rest) c z sh I L R Q) ∧ (¬ (x < y) → P d mi (pc + n) l (rest) c z sh I L R Q)) := rfl
theorem st_if_ge {k : Int} {x : Int32} : pm_step X C P (.ifCond .ge k, n, a, b, v, t) d mi pc l (.int x :: rest) c z sh I L R Q = ((0 ≤ x → P d mi a l (rest) c z sh I L R Q) ∧ (¬ (0 ≤ x) → P d mi (pc + n) l (rest) c z sh I L R Q)) := rfl
theorem st_icmp_ge {k : Int} {x y : Int32} : pm_step X C P (.if_icmp .ge k, n, a, b, v, t) d mi pc l (.int y :: .int x :: rest) c z sh I L R Q = ((y ≤ x → P d mi a l (rest) c z sh I L R Q) ∧ (¬ (y ≤ x) → P d mi (pc + n) l (rest) c z sh I L R Q)) := rfl
theorem st_if_gt {k : Int} {x : Int32} : pm_step X C P (.ifCond .gt k, n, a, b, v, t) d mi pc l (.int x :: rest) c z sh I L R Q = ((0 < x → P d mi a l (rest) c z sh I L R Q) ∧ (¬ (0 < x) → P d mi (pc + n) l (rest) c z sh I L R Q)) := rfl
theorem st_icmp_gt {k : Int} {x y : Int32} : pm_step X C P (.if_icmp .gt k, n, a, b, v, t) d mi pc l (.int y :: .int x :: rest) c z sh I L R Q = ((y < x → P d mi a l (rest) c z sh I L R Q) ∧ (¬ (y < x) → P d mi (pc + n) l (rest) c z sh I L R Q)) := rfl
theorem st_if_le {k : Int} {x : Int32} : pm_step X C P (.ifCond .le k, n, a, b, v, t) d mi pc l (.int x :: rest) c z sh I L R Q = ((x ≤ 0 → P d mi a l (rest) c z sh I L R Q) ∧ (¬ (x ≤ 0) → P d mi (pc + n) l (rest) c z sh I L R Q)) := rfl
theorem st_icmp_le {k : Int} {x y : Int32} : pm_step X C P (.if_icmp .le k, n, a, b, v, t) d mi pc l (.int y :: .int x :: rest) c z sh I L R Q = ((x ≤ y → P d mi a l (rest) c z sh I L R Q) ∧ (¬ (x ≤ y) → P d mi (pc + n) l (rest) c z sh I L R Q)) := rfl
theorem st_tsw {x1 x2 x3 : Int} {x4 : Array Int} {x : Int32} : pm_step X C P (.tableswitch x1 x2 x3 x4, n, a, b, v, t) d mi pc l (.int x :: rest) c z sh I L R Q = (pm_sw x (fun k => P d mi k l (rest) c z sh I L R Q) a t) := rfl
theorem st_lsw {x1 : Int} {x4 : Array (Int × Int)} {x : Int32} : pm_step X C P (.lookupswitch x1 x4, n, a, b, v, t) d mi pc l (.int x :: rest) c z sh I L R Q = (pm_sw x (fun k => P d mi k l (rest) c z sh I L R Q) a t) := rfl
theorem st_newarray {k : ArrayType} {x : Int32} : pm_step X C P (.newarray k, n, a, b, v, t) d mi pc l (.int x :: rest) c z sh I L R Q = (0 ≤ x ∧ pm_rm1 mi c z x.toNatClampNeg sh l rest ∧ P d mi (pc + n) l (.ref sh.length :: rest) (c + 1) (z + x.toNatClampNeg) (sh ++ [(a, x.toNatClampNeg)]) (pm_up I sh.length (fun _ => 0)) (pm_up L sh.length (fun _ => 0)) (pm_up R sh.length (fun _ => none)) Q) := rfl
theorem st_anewarray {k : Nat} {x : Int32} : pm_step X C P (.anewarray k, n, a, b, v, t) d mi pc l (.int x :: rest) c z sh I L R Q = (0 ≤ x ∧ pm_rm1 mi c z x.toNatClampNeg sh l rest ∧ P d mi (pc + n) l (.ref sh.length :: rest) (c + 1) (z + x.toNatClampNeg) (sh ++ [(a, x.toNatClampNeg)]) (pm_up I sh.length (fun _ => 0)) (pm_up L sh.length (fun _ => 0)) (pm_up R sh.length (fun _ => none)) Q) := rfl
theorem st_new {k : Nat} : pm_step X C P (.new k, n, a, b, v, t) d mi pc l (st) c z sh I L R Q = (pm_rm1 mi c z b sh l st ∧ P d mi (pc + n) l (.ref sh.length :: st) (c + 1) (z + b) (sh ++ [(0, a)]) (pm_up I sh.length (fun _ => 0)) (pm_up L sh.length (fun _ => 0)) (pm_up R sh.length (fun _ => none)) Q) := rfl
theorem st_invokevirtual {k : Nat} : pm_step X C P (.invokevirtual k, n, a, b, v, t) d mi pc l (st) c z sh I L R Q = ((match pm_pop b [] st with | some (as, .ref r :: rest) => pm_rcv sh v r ∧ pm_call C P d mi (pc + n) l a (.ref r :: as) rest c z sh I L R Q | _ => False)) := rfl
theorem st_invokespecial {k : Nat} : pm_step X C P (.invokespecial k, n, a, b, v, t) d mi pc l st c z sh I L R Q = (if v = -1 then pm_oin st (fun r rest => pm_nf3 r ∧ 1 ≤ d ∧ pm_cat rest ≤ 8 ∧ P d mi (pc + n) l (rest) c z sh I L R Q) else (match pm_pop b [] st with | some (as, .ref r :: rest) => pm_nf3 r ∧ pm_call C P d mi (pc + n) l a (.ref r :: as) rest c z sh I L R Q | _ => False)) := rfl
theorem st_static {k : Nat} : pm_step X C P (.invokestatic k, n, a, b, 0, t) d mi pc l (st) c z sh I L R Q = ((match pm_pop b [] st with | some (as, rest) => pm_call C P d mi (pc + n) l a as rest c z sh I L R Q | _ => False)) := rfl
theorem st_max {k : Nat} {x y : Int32} : pm_step X C P (.invokestatic k, n, a, b, 1, t) d mi pc l (.int y :: .int x :: rest) c z sh I L R Q = (1 ≤ d ∧ pm_cat rest ≤ 8 ∧ P d mi (pc + n) l (.int (if x < y then y else x) :: rest) c z sh I L R Q) := rfl
theorem st_min {k : Nat} {x y : Int32} : pm_step X C P (.invokestatic k, n, a, b, 2, t) d mi pc l (.int y :: .int x :: rest) c z sh I L R Q = (1 ≤ d ∧ pm_cat rest ≤ 8 ∧ P d mi (pc + n) l (.int (if y < x then y else x) :: rest) c z sh I L R Q) := rfl
theorem st_abs {k : Nat} {x : Int32} : pm_step X C P (.invokestatic k, n, a, b, 3, t) d mi pc l (.int x :: rest) c z sh I L R Q = (1 ≤ d ∧ pm_cat rest ≤ 8 ∧ P d mi (pc + n) l (.int (if 0 ≤ x then x else 0 - x) :: rest) c z sh I L R Q) := rfl
theorem st_copyi {k : Nat} {k0 dp sp : Int32} {r1 r2 : Nat} : pm_step X C P (.invokestatic k, n, a, b, 4, t) d mi pc l (.int k0 :: .int dp :: .ref r2 :: .int sp :: .ref r1 :: rest) c z sh I L R Q = (1 ≤ d ∧ pm_cat rest ≤ 8 ∧ pm_isk sh[r1]? 1 ∧ pm_isk sh[r2]? 1 ∧ ¬ sp < 0 ∧ ¬ dp < 0 ∧ ¬ k0 < 0 ∧ sp.toNatClampNeg + k0.toNatClampNeg ≤ pm_ln sh[r1]? 1 ∧ dp.toNatClampNeg + k0.toNatClampNeg ≤ pm_ln sh[r2]? 1 ∧ P d mi (pc + n) l (rest) c z sh (pm_up I r2 (va_cpy (I r1) (I r2) sp.toNatClampNeg dp.toNatClampNeg k0.toNatClampNeg)) L R Q) := rfl
theorem st_copyl {k : Nat} {k0 dp sp : Int32} {r1 r2 : Nat} : pm_step X C P (.invokestatic k, n, a, b, 5, t) d mi pc l (.int k0 :: .int dp :: .ref r2 :: .int sp :: .ref r1 :: rest) c z sh I L R Q = (1 ≤ d ∧ pm_cat rest ≤ 8 ∧ pm_isk sh[r1]? 3 ∧ pm_isk sh[r2]? 3 ∧ ¬ sp < 0 ∧ ¬ dp < 0 ∧ ¬ k0 < 0 ∧ sp.toNatClampNeg + k0.toNatClampNeg ≤ pm_ln sh[r1]? 3 ∧ dp.toNatClampNeg + k0.toNatClampNeg ≤ pm_ln sh[r2]? 3 ∧ P d mi (pc + n) l (rest) c z sh I (pm_up L r2 (va_cpy (L r1) (L r2) sp.toNatClampNeg dp.toNatClampNeg k0.toNatClampNeg)) R Q) := rfl
theorem st_ireturn {x : Int32} : pm_step X C P (.ireturn, n, a, b, v, t) d mi pc l ([.int x]) c z sh I L R Q = (pm_ret v x ∧ Q (some (.int x)) sh I L R) := rfl
theorem st_lreturn {x : Int64} : pm_step X C P (.lreturn, n, a, b, v, t) d mi pc l ([.long x]) c z sh I L R Q = (Q (some (.long x)) sh I L R) := rfl
theorem st_areturn {x : Nat} : pm_step X C P (.areturn, n, a, b, v, t) d mi pc l ([.ref x]) c z sh I L R Q = (Q (some (.ref x)) sh I L R) := rfl
theorem st_return : pm_step X C P (.return_, n, a, b, v, t) d mi pc l ([]) c z sh I L R Q = (Q none sh I L R) := rfl
theorem rn_succ {X : pm_X} {stops : List Nat} {n : Nat} : pm_run X stops (n + 1) d mi pc l st c z sh I L R Q = if pm_inl stops pc = true then pm_wp X d mi pc l st c z sh I L R Q else pm_rno X stops n (pm_f mi pc) d mi pc l st c z sh I L R Q := by
  show (if stops.elem pc = true then _ else _) = _
  have h : pm_inl stops pc = stops.elem pc := by
    induction stops with
    | nil => rfl
    | cons q r ih =>
      unfold pm_inl
      rw [List.elem_cons]
      by_cases h : pc = q
      · simp [h]
      · rw [if_neg h, ih, show (pc == q) = false from by simpa using h]
  rw [h]
  rfl
theorem rno_some {stops : List Nat} {k : Nat} {e : pm_E} : pm_rno X stops k (some e) d mi pc l st c z sh I L R Q = pm_step X (pm_wp X) (pm_run X stops k) e d mi pc l st c z sh I L R Q := rfl
theorem oi_some {x : Int32} {k : Int32 → Prop} : pm_oi (some (.int x)) k = k x := rfl
theorem ol_some {x : Int64} {k : Int64 → Prop} : pm_ol (some (.long x)) k = k x := rfl
theorem or_some {x : Nat} {k : Nat → Prop} : pm_or (some (.ref x)) k = k x := rfl
theorem lk_cons {i k : Nat} {w : Value} {r : pm_l} : pm_lk ((i, w) :: r) k = if i = k then some w else pm_lk r k := rfl
theorem ins_nil {i : Nat} {w : Value} : pm_ins [] i w = [(i, w)] := rfl
theorem ins_cons {i k : Nat} {w w2 : Value} {r : pm_l} : pm_ins ((k, w2) :: r) i w = if i < k then (i, w) :: (k, w2) :: r else (k, w2) :: pm_ins r i w := rfl
theorem rm_nil {i : Nat} : pm_rm [] i = [] := rfl
theorem rm_int {i k : Nat} {w : Int32} {r : pm_l} : pm_rm ((k, .int w) :: r) i = if k = i then pm_rm r i else (k, .int w) :: pm_rm r i := by
  show (if k = i ∨ (k + 1 = i ∧ (1 : Nat) = 2) then pm_rm r i else _) = _
  simp
theorem rm_ref {i k : Nat} {w : Nat} {r : pm_l} : pm_rm ((k, .ref w) :: r) i = if k = i then pm_rm r i else (k, .ref w) :: pm_rm r i := by
  show (if k = i ∨ (k + 1 = i ∧ (1 : Nat) = 2) then pm_rm r i else _) = _
  simp
theorem rm_long {i k : Nat} {w : Int64} {r : pm_l} : pm_rm ((k, .long w) :: r) i = if k = i ∨ k + 1 = i then pm_rm r i else (k, .long w) :: pm_rm r i := by
  show (if k = i ∨ (k + 1 = i ∧ (2 : Nat) = 2) then pm_rm r i else _) = _
  simp
theorem pop_0 {st : List Value} : pm_pop 0 [] (st) = some ([], st) := rfl
theorem pop_1 {x0 : Value} {st : List Value} : pm_pop 1 [] (x0 :: st) = some ([x0], st) := rfl
theorem pop_2 {x0 x1 : Value} {st : List Value} : pm_pop 2 [] (x1 :: x0 :: st) = some ([x0, x1], st) := rfl
theorem pop_3 {x0 x1 x2 : Value} {st : List Value} : pm_pop 3 [] (x2 :: x1 :: x0 :: st) = some ([x0, x1, x2], st) := rfl
theorem pop_4 {x0 x1 x2 x3 : Value} {st : List Value} : pm_pop 4 [] (x3 :: x2 :: x1 :: x0 :: st) = some ([x0, x1, x2, x3], st) := rfl
theorem pop_5 {x0 x1 x2 x3 x4 : Value} {st : List Value} : pm_pop 5 [] (x4 :: x3 :: x2 :: x1 :: x0 :: st) = some ([x0, x1, x2, x3, x4], st) := rfl
theorem pop_6 {x0 x1 x2 x3 x4 x5 : Value} {st : List Value} : pm_pop 6 [] (x5 :: x4 :: x3 :: x2 :: x1 :: x0 :: st) = some ([x0, x1, x2, x3, x4, x5], st) := rfl
theorem la_nil {i : Nat} : lv_args i [] = [] := rfl
theorem la_int {i : Nat} {x : Int32} {vs : List Value} : lv_args i (.int x :: vs) = (i, .int x) :: lv_args (i + 1) vs := rfl
theorem la_ref {i : Nat} {x : Nat} {vs : List Value} : lv_args i (.ref x :: vs) = (i, .ref x) :: lv_args (i + 1) vs := rfl
theorem la_long {i : Nat} {x : Int64} {vs : List Value} : lv_args i (.long x :: vs) = (i, .long x) :: lv_args (i + 2) vs := rfl
theorem cat_nil : pm_cat [] = 0 := rfl
theorem cat_int {x : Int32} {vs : List Value} : pm_cat (.int x :: vs) = 1 + pm_cat vs := rfl
theorem cat_ref {x : Nat} {vs : List Value} : pm_cat (.ref x :: vs) = 1 + pm_cat vs := rfl
theorem cat_long {x : Int64} {vs : List Value} : pm_cat (.long x :: vs) = 2 + pm_cat vs := rfl
theorem call_succ {callee : Nat} {args : List Value} : pm_call C P (d + 1) mi pc l callee args rest c z sh I L R Q = (c + (pm_cst callee).1 ≤ (pm_cst mi).1 ∧ z + (pm_cst callee).2 ≤ (pm_cst mi).2 ∧ ((pm_cst callee).1 = 0 ∨ (pm_scl sh.length l ∧ pm_scv sh.length rest)) ∧ pm_cat rest ≤ 8 ∧ pm_cat args ≤ pm_mx callee ∧ C d callee 0 (lv_args 0 args) [] 0 0 sh I L R (pm_cont P (d + 1) mi pc l rest (c + (pm_cst callee).1) (z + (pm_cst callee).2) Q)) := rfl
theorem cont_some {w : Value} : pm_cont P d mi pc l rest c z Q (some w) sh I L R = P d mi pc l (w :: rest) c z sh I L R Q := rfl
theorem cont_none : pm_cont P d mi pc l rest c z Q none sh I L R = P d mi pc l rest c z sh I L R Q := rfl
theorem rcv_0 {r : Nat} : pm_rcv sh 0 r = (sh[r]? = some (0, 0)) := rfl
theorem rcv_1 {r : Nat} : pm_rcv sh 1 r = (sh[r]? = some (0, 1)) := rfl
theorem rcv_2 {r : Nat} : pm_rcv sh 2 r = (sh[r]? = some (0, 2)) := rfl
theorem rcv_3 {r : Nat} : pm_rcv sh 3 r = (sh[r]? = some (0, 3)) := rfl
theorem rcv_4 {r : Nat} : pm_rcv sh 4 r = (sh[r]? = some (0, 4)) := rfl
theorem rcv_5 {r : Nat} : pm_rcv sh 5 r = (sh[r]? = some (0, 5)) := rfl
theorem rcv_6 {r : Nat} : pm_rcv sh 6 r = (sh[r]? = some (0, 6)) := rfl
theorem rcv_7 {r : Nat} : pm_rcv sh 7 r = (sh[r]? = some (0, 7)) := rfl
theorem rcv_8 {r : Nat} : pm_rcv sh 8 r = (sh[r]? = some (0, 8)) := rfl
theorem rcv_s {r : Nat} : pm_rcv sh (-1) r = pm_isS r := rfl
theorem rf_some {x : Nat} : va_rf (some x) = .ref x := rfl
theorem ret_0 {x : Int32} : pm_ret 0 x = True := rfl
theorem ret_10 : pm_ret 1 0 = True := by simp [pm_ret]
theorem ret_11 : pm_ret 1 1 = True := by simp [pm_ret]
theorem ret_ite {p : Prop} [Decidable p] : pm_ret 1 (if p then (1 : Int32) else 0) = True := by
  by_cases h : p <;> simp [h, pm_ret]
theorem ite_0 {p : Prop} [Decidable p] : ((if p then (1 : Int32) else 0) = 0) = ¬ p := by
  by_cases h : p <;> simp [h]
theorem sw_nil {x : Int32} {k : Nat → Prop} {df : Nat} : pm_sw x k df [] = k df := rfl
theorem sw_cons {x : Int32} {k : Nat → Prop} {df w : Nat} {q : Int} {r : List (Int × Nat)} : pm_sw x k df ((q, w) :: r) = ((x = Int32.ofInt q → k w) ∧ (¬ x = Int32.ofInt q → pm_sw x k df r)) := rfl
theorem ln_some {j n k : Nat} : pm_ln (some (j, n)) k = if j = k then n else 0 := rfl
theorem isk_some {j n k : Nat} : pm_isk (some (j, n)) k = (j = k) := rfl
theorem al_some {n : Nat} : pm_al (some (1, n)) = some n := rfl
end PMS
