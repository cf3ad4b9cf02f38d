/-! what the program's table says of an instruction is what is decoded there, and what the tables' words link -/
def pm_lkn (xs : List ((Nat × Nat × Nat × Nat) × Nat)) (o i a k : Nat) : Bool := xs.any (fun q => q.1.1 == o && (q.1.2.1 == i && (q.1.2.2.1 == a && q.1.2.2.2 == k)))
def pm_xl : List (Nat × Nat × Nat × Nat) := [
  (0, 3, 6, 163),
  (0, 28, 2, 875),
  (1, 3, 6, 313),
  (1, 85, 1, 759),
  (2, 3, 6, 188),
  (3, 3, 6, 112),
  (3, 59, 1, 585),
  (4, 3, 6, 134),
  (4, 15, 1, 135),
  (4, 35, 2, 833),
  (4, 38, 4, 834),
  (5, 3, 6, 238),
  (5, 62, 4, 659),
  (5, 76, 1, 427),
  (5, 96, 3, 436),
  (5, 99, 2, 439),
  (6, 3, 6, 325),
  (7, 3, 6, 102),
  (7, 324, 5, 917),
  (7, 330, 2, 640),
  (7, 335, 1, 641),
  (8, 1, 6, 923)]
def pm_kl : List (Nat × Nat × Nat × Nat) := [
  (7, 11, 2, 105),
  (7, 21, 3, 107),
  (7, 28, 4, 129),
  (7, 56, 0, 158),
  (7, 63, 6, 182),
  (7, 70, 5, 233),
  (7, 82, 1, 308),
  (99, 7, 7, 97),
  (99, 10, 8, 918)]
def pm_cn : List (Nat × Nat × Int × Nat) := [
  (5, 137, 99999, 636),
  (8, 360, 99999, 1343)]
def pm_cnl : List (Nat × Nat × Int × Nat) := [
  (7, 252, (-9223372036854775808), 777),
  (8, 400, (-9223372036854775808), 1432),
  (99, 156, 4294967295, 1545)]
def pm_swok (pc : Nat) (ps : List (Int × Int)) (t : List (Int × Nat)) : Bool := decide (ps.length = t.length) && (ps.zip t).all (fun q => decide (q.1.1 = q.2.1) && (decide ((pc : Int) + q.1.2 = (q.2.2 : Int)) && (decide (-2147483648 ≤ q.1.1) && decide (q.1.1 ≤ 2147483647))))
def pm_res (own : Nat) (y : MethodName) (ret : Option FieldType) (pc : Nat) (e : pm_E) : Bool := match e with
  | (ins, _, a, b, v, t) => match ins with
    | .iload_n k | .lload_n k | .aload_n k | .istore_n k | .astore_n k => decide (k.val = a)
    | .iload k | .lload k | .aload k | .istore k | .astore k => decide (k = a)
    | .iconst k => decide (Int32.ofInt k = Int32.ofInt v)
    | .bipush k => decide ((Int8.ofInt k).toInt32 = Int32.ofInt v)
    | .sipush k => decide ((Int16.ofInt k).toInt32 = Int32.ofInt v)
    | .lconst k => decide (Int64.ofNat k.val = Int64.ofInt v)
    | .ldc k => if a = 0 then pm_cn.any (fun q => q.1 == own && (q.2.1 == k && decide (q.2.2.1 = v))) else own == 3 && (decide (b < 5) && k == pm_six b)
    | .ldc_w k => decide (a = 0) && pm_cn.any (fun q => q.1 == own && (q.2.1 == k && decide (q.2.2.1 = v)))
    | .ldc2_w k => pm_cnl.any (fun q => q.1 == own && (q.2.1 == k && decide (q.2.2.1 = v)))
    | .getfield k => if v = -1 then own == 20 && k == 9 else if v = -2 then own == 20 && k == 15 else pm_lkn pm_fl own k a b && (decide (b < pm_nf a) && (decide (a < 9) && decide ((v = 2) ↔ (pm_kd a b = 2))))
    | .putfield k => pm_lkn pm_fl own k a b && (decide (b < pm_nf a) && (decide (a < 9) && (decide (v = pm_kd a b) && ((pm_T a b).2.2.2 == false || (y.name == "<init>" && (pm_T a b).1 == pm_os own)))))
    | .getstatic k => (own == 20 && (k == 38 && (decide (v = 0) && a == 1))) || (own == 20 && (k == 1053 && (decide (v = 1) && a == 1000003))) || (own == 7 && (k == 338 && (decide (v = 1) && a == 1000001))) || (own == 0 && (k == 49 && (decide (v = 1) && a == 1000002))) || (own == 0 && (k == 52 && (decide (v = 1) && a == 1000001)))
    | .aaload | .aastore => a == 6 || a == 10
    | .iinc k n => k == a && decide (n = v)
    | .goto o => decide ((pc : Int) + o = (a : Int))
    | .ifCond _ o => decide ((pc : Int) + o = (a : Int))
    | .if_icmp _ o => decide ((pc : Int) + o = (a : Int))
    | .tableswitch df lo hi offs => decide ((pc : Int) + df = (a : Int)) && (decide (lo + (offs.size : Int) = hi + 1) && pm_swok pc (offs.toList.mapIdx (fun i o => (lo + (i : Int), o))) t)
    | .lookupswitch df ps => decide ((pc : Int) + df = (a : Int)) && ((ps.toList.zip (ps.toList.drop 1)).all (fun (x, next) => x.1 < next.1) && pm_swok pc ps.toList t)
    | .newarray k => (decide (k = .int) && a == 1) || (decide (k = .boolean) && a == 2) || (decide (k = .long) && a == 3)
    | .anewarray k => (a == 6 || a == 10) && pm_kl.any (fun q => q.1 == own && (q.2.1 == k && q.2.2.1 + 4 == a))
    | .new k => decide (a < 9) && (b == pm_nf a && pm_kl.any (fun q => q.1 == own && (q.2.1 == k && q.2.2.1 == a)))
    | .invokevirtual k => pm_lkn pm_cl own k a 0 && (match pm_ms[a]? with
      | some (o2, _, _, _, _, na) => na == b && (if v < 0 then o2 == 20 else decide (v = (o2 : Int)) && decide (o2 < 9))
      | none => false)
    | .invokespecial k => if v = -1 then pm_xl.any (fun q => q.1 == own && (q.2.1 == k && q.2.2.1 == 6)) else (pm_lkn pm_cl own k a 3 || pm_lkn pm_cl own k a 4) && (match pm_ms[a]? with
      | some (_, _, _, _, r2, na) => na == b && decide (r2 = none)
      | none => false)
    | .invokestatic k => if v = 0 then (pm_lkn pm_cl own k a 1 || pm_lkn pm_cl own k a 2) && (match pm_ms[a]? with
      | some (_, _, _, _, _, na) => na == b
      | none => false) else decide (v ≠ 6) && pm_xl.any (fun q => q.1 == own && (q.2.1 == k && decide ((q.2.2.1 : Int) = v)))
    | .ireturn => if v = 0 then decide (ret = some .int) else if v = 1 then decide (ret = some .boolean) else if v = 2 then decide (ret = some .char) else decide (ret = some .byte)
    | .lreturn => decide (ret = some .long)
    | .areturn => match ret with
      | some (.object _) => true
      | _ => false
    | .return_ => decide (ret = none)
    | _ => true
def pm_ilen : Instr → Nat
  | .iload _ | .lload _ | .aload _ | .istore _ | .astore _ | .bipush _ | .ldc _ | .newarray _ => 2
  | .sipush _ | .ldc_w _ | .ldc2_w _ | .getfield _ | .putfield _ | .getstatic _ | .goto _ | .ifCond _ _ | .if_icmp _ _ | .iinc _ _ | .anewarray _ | .new _ | .invokevirtual _ | .invokespecial _ | .invokestatic _ => 3
  | _ => 1
def pm_isw : Instr → Bool
  | .tableswitch _ _ _ _ | .lookupswitch _ _ => true
  | _ => false
def pm_stl : Instr → Bool
  | .istore _ | .istore_n _ | .astore _ | .astore_n _ => true
  | _ => false
def pm_okE (mi pc : Nat) (e : pm_E) : Bool := match pm_ms[mi]? with
  | some (own, y, cc, ml, r, _) => (!(pm_stl e.1) || decide (e.2.2.1 < ml)) && ((decide (decode cc pc = .ok (e.1, e.2.1)) && (e.2.1 == pm_ilen e.1 || pm_isw e.1)) && pm_res own y r pc e)
  | none => false
def pm_okT (mi : Nat) (T : List (Nat × pm_E)) : Bool := T.all (fun q => pm_okE mi q.1 q.2)
theorem pm_lookup_mem {α : Type} : ∀ {T : List (Nat × α)} {k : Nat} {e : α}, T.lookup k = some e → (k, e) ∈ T
  | [], _, _, h => by cases h
  | (i, x) :: r, k, e, h => by
    rw [List.lookup_cons] at h
    by_cases hk : k = i
    · subst hk
      simp at h
      subst h
      exact List.mem_cons_self
    · rw [show (k == i) = false from by simpa using hk] at h
      exact List.mem_cons_of_mem _ (pm_lookup_mem h)
theorem pm_okOf {mi pc : Nat} {e : pm_E} (hT : pm_okT mi (pm_tab mi) = true) (h : pm_f mi pc = some e) : pm_okE mi pc e = true := by
  unfold pm_f at h
  unfold pm_okT at hT
  generalize pm_tab mi = T at hT h
  exact List.all_eq_true.mp hT (pc, e) (pm_lookup_mem h)
theorem pm_ok_app {mi : Nat} {A B : List (Nat × pm_E)} (h1 : pm_okT mi A = true) (h2 : pm_okT mi B = true) : pm_okT mi (A ++ B) = true := by
  unfold pm_okT at *
  rw [List.all_append, h1, h2]
  rfl
