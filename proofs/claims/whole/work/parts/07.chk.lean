/-! what the program's table says of an instruction is what is decoded there, and what the tables' words link -/
def pm_lkn (xs : List ((Nat × Nat × Nat × Nat) × Nat)) (o i a k : Nat) : Bool := xs.any (fun q => q.1.1 == o && (q.1.2.1 == i && (q.1.2.2.1 == a && q.1.2.2.2 == k)))
def pm_xl : List (Nat × Nat × Nat × Nat) := [
  (0, 3, 6, 163),
  (0, 28, 2, 875),
  (1, 3, 6, 313),
  (1, 85, 1, 759),
  (2, 3, 6, 188),
  (3, 3, 6, 112),
  (3, 59, 1, 585),
  (4, 3, 6, 134),
  (4, 15, 1, 135),
  (4, 35, 2, 833),
  (4, 38, 4, 834),
  (5, 3, 6, 238),
  (5, 62, 4, 659),
  (5, 76, 1, 427),
  (5, 96, 3, 436),
  (5, 99, 2, 439),
  (6, 3, 6, 325),
  (7, 3, 6, 102),
  (7, 324, 5, 917),
  (7, 330, 2, 640),
  (7, 335, 1, 641),
  (8, 1, 6, 923)]
def pm_kl : List (Nat × Nat × Nat × Nat) := [
  (7, 11, 2, 105),
  (7, 21, 3, 107),
  (7, 28, 4, 129),
  (7, 56, 0, 158),
  (7, 63, 6, 182),
  (7, 70, 5, 233),
  (7, 82, 1, 308),
  (99, 7, 7, 97),
  (99, 10, 8, 918)]
def pm_cn : List (Nat × Nat × Int × Nat) := [
  (5, 137, 99999, 636),
  (8, 360, 99999, 1343)]
def pm_cnl : List (Nat × Nat × Int × Nat) := [
  (7, 252, (-9223372036854775808), 777),
  (8, 400, (-9223372036854775808), 1432),
  (99, 156, 4294967295, 1545)]
def pm_swok (pc : Nat) (ps : List (Int × Int)) (t : List (Int × Nat)) : Bool := decide (ps.length = t.length) && (ps.zip t).all (fun q => decide (q.1.1 = q.2.1) && (decide ((pc : Int) + q.1.2 = (q.2.2 : Int)) && (decide (-2147483648 ≤ q.1.1) && decide (q.1.1 ≤ 2147483647))))
def pm_res (own : Nat) (y : MethodName) (ret : Option FieldType) (pc : Nat) (e : pm_E) : Bool := match e with
  | (ins, _, a, b, v, t) => match ins with
    | .iload_n k | .lload_n k | .aload_n k | .istore_n k | .astore_n k => decide (k.val = a)
    | .iload k | .aload k | .istore k | .astore k => decide (k = a)
    | .iconst k => decide (Int32.ofInt k = Int32.ofInt v)
    | .bipush k => decide ((Int8.ofInt k).toInt32 = Int32.ofInt v)
    | .sipush k => decide ((Int16.ofInt k).toInt32 = Int32.ofInt v)
    | .lconst k => decide (Int64.ofNat k.val = Int64.ofInt v)
    | .ldc k => if a = 0 then pm_cn.any (fun q => q.1 == own && (q.2.1 == k && decide (q.2.2.1 = v))) else own == 3 && (decide (b < 5) && k == pm_six b)
    | .ldc_w k => decide (a = 0) && pm_cn.any (fun q => q.1 == own && (q.2.1 == k && decide (q.2.2.1 = v)))
    | .ldc2_w k => pm_cnl.any (fun q => q.1 == own && (q.2.1 == k && decide (q.2.2.1 = v)))
    | .getfield k => if v = -1 then own == 20 && k == 9 else if v = -2 then own == 20 && k == 15 else pm_lkn pm_fl own k a b && (decide (b < pm_nf a) && (decide (a < 9) && decide ((v = 2) ↔ (pm_kd a b = 2))))
    | .putfield k => pm_lkn pm_fl own k a b && (decide (b < pm_nf a) && (decide (a < 9) && (decide (v = pm_kd a b) && ((pm_T a b).2.2.2 == false || (y.name == "<init>" && (pm_T a b).1 == pm_os own)))))
    | .getstatic k => (own == 20 && (k == 38 && (decide (v = 0) && a == 1))) || (own == 20 && (k == 1053 && (decide (v = 1) && a == 1000003))) || (own == 7 && (k == 338 && (decide (v = 1) && a == 1000001))) || (own == 0 && (k == 49 && (decide (v = 1) && a == 1000002))) || (own == 0 && (k == 52 && (decide (v = 1) && a == 1000001)))
    | .aaload | .aastore => a == 6 || a == 10
    | .iinc k n => k == a && decide (n = v)
    | .goto o => decide ((pc : Int) + o = (a : Int))
    | .ifCond _ o => decide ((pc : Int) + o = (a : Int))
    | .if_icmp _ o => decide ((pc : Int) + o = (a : Int))
    | .tableswitch df lo hi offs => decide ((pc : Int) + df = (a : Int)) && (decide (lo + (offs.size : Int) = hi + 1) && pm_swok pc (offs.toList.mapIdx (fun i o => (lo + (i : Int), o))) t)
    | .lookupswitch df ps => decide ((pc : Int) + df = (a : Int)) && ((ps.toList.zip (ps.toList.drop 1)).all (fun (x, next) => x.1 < next.1) && pm_swok pc ps.toList t)
    | .newarray k => (decide (k = .int) && a == 1) || (decide (k = .boolean) && a == 2) || (decide (k = .long) && a == 3)
    | .anewarray k => (a == 6 || a == 10) && pm_kl.any (fun q => q.1 == own && (q.2.1 == k && q.2.2.1 + 4 == a))
    | .new k => decide (a < 9) && (b == pm_nf a && pm_kl.any (fun q => q.1 == own && (q.2.1 == k && q.2.2.1 == a)))
    | .invokevirtual k => pm_lkn pm_cl own k a 0 && (match pm_ms[a]? with
      | some (o2, _, _, _, _, na) => na == b && (if v < 0 then o2 == 20 else decide (v = (o2 : Int)) && decide (o2 < 9))
      | none => false)
    | .invokespecial k => if v = -1 then pm_xl.any (fun q => q.1 == own && (q.2.1 == k && q.2.2.1 == 6)) else (pm_lkn pm_cl own k a 3 || pm_lkn pm_cl own k a 4) && (match pm_ms[a]? with
      | some (_, _, _, _, r2, na) => na == b && decide (r2 = none)
      | none => false)
    | .invokestatic k => if v = 0 then (pm_lkn pm_cl own k a 1 || pm_lkn pm_cl own k a 2) && (match pm_ms[a]? with
      | some (_, _, _, _, _, na) => na == b
      | none => false) else pm_xl.any (fun q => q.1 == own && (q.2.1 == k && decide ((q.2.2.1 : Int) = v)))
    | .ireturn => if v = 0 then decide (ret = some .int) else if v = 1 then decide (ret = some .boolean) else if v = 2 then decide (ret = some .char) else decide (ret = some .byte)
    | .lreturn => decide (ret = some .long)
    | .areturn => match ret with
      | some (.object _) => true
      | _ => false
    | .return_ => decide (ret = none)
    | _ => true
def pm_ilen : Instr → Nat
  | .iload _ | .aload _ | .istore _ | .astore _ | .bipush _ | .ldc _ | .newarray _ => 2
  | .sipush _ | .ldc_w _ | .ldc2_w _ | .getfield _ | .putfield _ | .getstatic _ | .goto _ | .ifCond _ _ | .if_icmp _ _ | .iinc _ _ | .anewarray _ | .new _ | .invokevirtual _ | .invokespecial _ | .invokestatic _ => 3
  | _ => 1
def pm_isw : Instr → Bool
  | .tableswitch _ _ _ _ | .lookupswitch _ _ => true
  | _ => false
def pm_okE (mi pc : Nat) (e : pm_E) : Bool := match pm_ms[mi]? with
  | some (own, y, cc, _, r, _) => (decide (decode cc pc = .ok (e.1, e.2.1)) && (e.2.1 == pm_ilen e.1 || pm_isw e.1)) && pm_res own y r pc e
  | none => false
def pm_okT (mi : Nat) (T : List (Nat × pm_E)) : Bool := T.all (fun q => pm_okE mi q.1 q.2)
theorem pm_lookup_mem {α : Type} : ∀ {T : List (Nat × α)} {k : Nat} {e : α}, T.lookup k = some e → (k, e) ∈ T
  | [], _, _, h => by cases h
  | (i, x) :: r, k, e, h => by
    rw [List.lookup_cons] at h
    by_cases hk : k = i
    · subst hk
      simp at h
      subst h
      exact List.mem_cons_self
    · rw [show (k == i) = false from by simpa using hk] at h
      exact List.mem_cons_of_mem _ (pm_lookup_mem h)
theorem pm_okOf {mi pc : Nat} {e : pm_E} (hT : pm_okT mi (pm_tab mi) = true) (h : pm_f mi pc = some e) : pm_okE mi pc e = true := by
  unfold pm_f at h
  unfold pm_okT at hT
  generalize pm_tab mi = T at hT h
  exact List.all_eq_true.mp hT (pc, e) (pm_lookup_mem h)
theorem pm_ok_app {mi : Nat} {A B : List (Nat × pm_E)} (h1 : pm_okT mi A = true) (h2 : pm_okT mi B = true) : pm_okT mi (A ++ B) = true := by
  unfold pm_okT at *
  rw [List.all_append, h1, h2]
  rfl
theorem pm_ok0 : pm_okT 0 pm_t0 = true := by decide +kernel
theorem pm_ok1 : pm_okT 1 pm_t1 = true := by decide +kernel
theorem pm_ok2 : pm_okT 2 pm_t2 = true := by decide +kernel
theorem pm_ok3 : pm_okT 3 pm_t3 = true := by decide +kernel
theorem pm_ok4 : pm_okT 4 pm_t4 = true := by decide +kernel
theorem pm_ok5 : pm_okT 5 pm_t5 = true := by decide +kernel
theorem pm_ok6 : pm_okT 6 pm_t6 = true := by decide +kernel
theorem pm_ok7 : pm_okT 7 pm_t7 = true := by decide +kernel
theorem pm_ok8 : pm_okT 8 pm_t8 = true := by decide +kernel
theorem pm_ok9 : pm_okT 9 pm_t9 = true := by decide +kernel
theorem pm_ok10 : pm_okT 10 pm_t10 = true := by decide +kernel
theorem pm_ok11 : pm_okT 11 pm_t11 = true := by decide +kernel
theorem pm_ok12 : pm_okT 12 pm_t12 = true := by decide +kernel
theorem pm_ok13 : pm_okT 13 pm_t13 = true := by decide +kernel
theorem pm_ok14 : pm_okT 14 pm_t14 = true := by decide +kernel
theorem pm_ok15 : pm_okT 15 pm_t15 = true := by decide +kernel
theorem pm_ok16 : pm_okT 16 pm_t16 = true := by decide +kernel
theorem pm_ok17 : pm_okT 17 pm_t17 = true := by decide +kernel
theorem pm_ok18 : pm_okT 18 pm_t18 = true := by decide +kernel
theorem pm_ok19 : pm_okT 19 pm_t19 = true := by decide +kernel
theorem pm_ok20 : pm_okT 20 pm_t20 = true := by decide +kernel
theorem pm_ok21 : pm_okT 21 pm_t21 = true := by decide +kernel
theorem pm_ok22 : pm_okT 22 pm_t22 = true := by decide +kernel
theorem pm_ok23 : pm_okT 23 pm_t23 = true := by decide +kernel
theorem pm_ok24 : pm_okT 24 pm_t24 = true := by decide +kernel
theorem pm_ok25 : pm_okT 25 pm_t25 = true := by decide +kernel
theorem pm_ok26 : pm_okT 26 pm_t26 = true := by decide +kernel
theorem pm_ok27 : pm_okT 27 pm_t27 = true := by decide +kernel
theorem pm_ok28 : pm_okT 28 pm_t28 = true := by decide +kernel
theorem pm_ok29 : pm_okT 29 pm_t29 = true := by decide +kernel
theorem pm_ok30 : pm_okT 30 pm_t30 = true := by decide +kernel
theorem pm_ok31 : pm_okT 31 pm_t31 = true := by decide +kernel
theorem pm_ok32 : pm_okT 32 pm_t32 = true := by decide +kernel
theorem pm_ok33 : pm_okT 33 pm_t33 = true := by decide +kernel
theorem pm_ok34 : pm_okT 34 pm_t34 = true := by decide +kernel
theorem pm_ok35 : pm_okT 35 pm_t35 = true := by decide +kernel
theorem pm_ok36 : pm_okT 36 pm_t36 = true := by decide +kernel
theorem pm_ok37 : pm_okT 37 pm_t37 = true := by decide +kernel
theorem pm_ok38 : pm_okT 38 pm_t38 = true := by decide +kernel
theorem pm_ok39 : pm_okT 39 pm_t39 = true := by decide +kernel
theorem pm_ok40 : pm_okT 40 pm_t40 = true := by decide +kernel
theorem pm_ok41 : pm_okT 41 pm_t41 = true := by decide +kernel
theorem pm_ok42 : pm_okT 42 pm_t42 = true := by decide +kernel
theorem pm_ok43 : pm_okT 43 pm_t43 = true := by decide +kernel
theorem pm_ok44 : pm_okT 44 pm_t44 = true := by decide +kernel
theorem pm_ok45 : pm_okT 45 pm_t45 = true := by decide +kernel
theorem pm_ok46 : pm_okT 46 pm_t46 = true := by decide +kernel
theorem pm_ok47 : pm_okT 47 pm_t47 = true := by decide +kernel
theorem pm_ok48 : pm_okT 48 pm_t48 = true := by decide +kernel
theorem pm_ok49 : pm_okT 49 pm_t49 = true := by decide +kernel
theorem pm_ok50 : pm_okT 50 pm_t50 = true := by decide +kernel
theorem pm_ok51 : pm_okT 51 pm_t51 = true := by decide +kernel
theorem pm_ok52 : pm_okT 52 pm_t52 = true := by decide +kernel
theorem pm_ok53 : pm_okT 53 pm_t53 = true := by decide +kernel
theorem pm_ok54 : pm_okT 54 pm_t54 = true := by decide +kernel
theorem pm_ok55 : pm_okT 55 pm_t55 = true := by decide +kernel
theorem pm_ok56 : pm_okT 56 pm_t56 = true := by decide +kernel
theorem pm_ok57 : pm_okT 57 pm_t57 = true := by decide +kernel
theorem pm_ok58 : pm_okT 58 pm_t58 = true := by decide +kernel
theorem pm_ok59 : pm_okT 59 pm_t59 = true := by decide +kernel
theorem pm_ok60 : pm_okT 60 pm_t60 = true := by decide +kernel
theorem pm_ok61 : pm_okT 61 pm_t61 = true := by decide +kernel
theorem pm_ok62 : pm_okT 62 pm_t62 = true := by decide +kernel
theorem pm_ok63 : pm_okT 63 pm_t63 = true := by decide +kernel
theorem pm_ok64 : pm_okT 64 pm_t64 = true := by decide +kernel
theorem pm_ok65 : pm_okT 65 pm_t65 = true := by decide +kernel
theorem pm_ok66 : pm_okT 66 pm_t66 = true := by decide +kernel
theorem pm_ok67 : pm_okT 67 pm_t67 = true := by decide +kernel
theorem pm_ok68 : pm_okT 68 pm_t68 = true := by decide +kernel
theorem pm_ok69 : pm_okT 69 pm_t69 = true := by decide +kernel
theorem pm_ok70 : pm_okT 70 pm_t70 = true := by decide +kernel
theorem pm_ok71 : pm_okT 71 pm_t71 = true := by decide +kernel
theorem pm_ok72 : pm_okT 72 pm_t72 = true := by decide +kernel
theorem pm_ok73 : pm_okT 73 pm_t73 = true := by decide +kernel
theorem pm_ok74 : pm_okT 74 pm_t74 = true := by decide +kernel
theorem pm_ok75 : pm_okT 75 pm_t75 = true := by decide +kernel
theorem pm_ok76 : pm_okT 76 pm_t76 = true := by decide +kernel
theorem pm_ok77 : pm_okT 77 pm_t77 = true := by decide +kernel
theorem pm_ok78 : pm_okT 78 pm_t78 = true := by decide +kernel
theorem pm_ok79 : pm_okT 79 pm_t79 = true := by decide +kernel
theorem pm_ok80 : pm_okT 80 pm_t80 = true := by decide +kernel
theorem pm_ok81 : pm_okT 81 pm_t81 = true := by decide +kernel
theorem pm_ok82 : pm_okT 82 pm_t82 = true := by decide +kernel
theorem pm_ok83 : pm_okT 83 pm_t83 = true := by decide +kernel
theorem pm_ok84 : pm_okT 84 pm_t84 = true := by decide +kernel
theorem pm_ok85 : pm_okT 85 pm_t85 = true := by decide +kernel
theorem pm_ok86 : pm_okT 86 pm_t86 = true := by decide +kernel
theorem pm_ok87 : pm_okT 87 pm_t87 = true := by decide +kernel
theorem pm_ok88 : pm_okT 88 pm_t88 = true := by decide +kernel
theorem pm_ok89 : pm_okT 89 pm_t89 = true := by decide +kernel
theorem pm_ok90 : pm_okT 90 pm_t90 = true := by decide +kernel
theorem pm_ok91 : pm_okT 91 pm_t91 = true := by decide +kernel
theorem pm_ok92 : pm_okT 92 pm_t92 = true := by decide +kernel
theorem pm_ok93 : pm_okT 93 pm_t93 = true := by decide +kernel
theorem pm_ok94 : pm_okT 94 pm_t94 = true := by decide +kernel
theorem pm_ok95 : pm_okT 95 pm_t95 = true := by decide +kernel
theorem pm_ok96 : pm_okT 96 pm_t96 = true := by decide +kernel
theorem pm_ok97 : pm_okT 97 pm_t97 = true := by decide +kernel
theorem pm_ok98 : pm_okT 98 pm_t98 = true := by decide +kernel
theorem pm_ok99 : pm_okT 99 pm_t99 = true := by decide +kernel
theorem pm_ok100 : pm_okT 100 pm_t100 = true := by decide +kernel
theorem pm_ok101 : pm_okT 101 pm_t101 = true := by decide +kernel
theorem pm_ok102 : pm_okT 102 pm_t102 = true := by decide +kernel
theorem pm_ok103 : pm_okT 103 pm_t103 = true := by decide +kernel
theorem pm_ok104 : pm_okT 104 pm_t104 = true := by decide +kernel
theorem pm_ok105 : pm_okT 105 pm_t105 = true := by decide +kernel
theorem pm_ok106 : pm_okT 106 pm_t106 = true := by decide +kernel
theorem pm_ok107 : pm_okT 107 pm_t107 = true := by decide +kernel
theorem pm_ok108 : pm_okT 108 pm_t108 = true := by decide +kernel
theorem pm_ok109 : pm_okT 109 pm_t109 = true := by decide +kernel
theorem pm_ok110 : pm_okT 110 pm_t110 = true := by decide +kernel
theorem pm_ok111 : pm_okT 111 pm_t111 = true := by decide +kernel
theorem pm_ok112 : pm_okT 112 pm_t112 = true := by decide +kernel
theorem pm_ok113 : pm_okT 113 pm_t113 = true := by decide +kernel
theorem pm_ok114 : pm_okT 114 pm_t114 = true := by decide +kernel
theorem pm_ok115 : pm_okT 115 pm_t115 = true := by decide +kernel
theorem pm_ok116 : pm_okT 116 pm_t116 = true := by decide +kernel
theorem pm_ok117 : pm_okT 117 pm_t117 = true := by decide +kernel
theorem pm_ok118 : pm_okT 118 pm_t118 = true := by decide +kernel
theorem pm_ok119 : pm_okT 119 pm_t119 = true := by decide +kernel
