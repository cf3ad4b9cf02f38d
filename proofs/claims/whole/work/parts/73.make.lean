/-! THE CONSTRUCTORS: the cells come in the order of SH -/
theorem sh_tk {b : Nat} {x : Nat × Nat} (h : SH[b]? = some x) : SH.take b ++ [x] = SH.take (b + 1) := by
  obtain ⟨h1, h2⟩ := List.getElem?_eq_some_iff.mp h
  rw [List.take_succ_eq_append_getElem h1, h2]
theorem sh_ln {b : Nat} (h : b ≤ 170) : (SH.take b).length = b := by
  rw [List.length_take]
  have : SH.length = 170 := by decide +kernel
  omega
theorem sh_at {b m : Nat} (h : b < m) : (SH.take m)[b]? = SH[b]? := List.getElem?_take_of_lt h
/-- the class's numbers as they are laid -/
def I0 : pm_I := fun a j => if a = 31 ∨ (74 ≤ a ∧ a < 110 ∧ (a - 74) % 6 = 0) then (if j = 0 then 2 else if j = 1 then 60 else if j = 2 then 5 else 0) else if 110 ≤ a ∧ a < 122 ∧ a % 2 = 0 ∧ j = 0 then -1 else 0
def K0 : Nat → Nat := fun _ => 31
def CF (e m : Nat) (I : pm_I) (L : pm_L) (R : pm_R) : Prop := (∀ a, 1 ≤ a → ¬ a = e → a < m → I a = I0 a ∧ L a = (fun _ => 0) ∧ R a = RR K0 a) ∧ ∀ a, m ≤ a → R a = fun _ => none
def CN (e b : Nat) (I : pm_I) (L : pm_L) (R : pm_R) : Prop := CF e b I L R ∧ I b = (fun _ => 0) ∧ L b = fun _ => 0
section MAKE
variable {X : pm_X} {d : Nat} {I : pm_I} {L : pm_L} {R : pm_R} {Q : pm_Q}
theorem cn_new {e b : Nat} (c : CF e b I L R) : CN e b (pm_up I b fun _ => 0) (pm_up L b fun _ => 0) (pm_up R b fun _ => none) := by
  refine ⟨⟨fun a h1 he h2 => ?_, fun a h1 => ?_⟩, if_pos rfl, if_pos rfl⟩
  · have e : ¬ a = b := by omega
    unfold pm_up
    rw [if_neg e, if_neg e, if_neg e]
    exact c.1 a h1 he h2
  · unfold pm_up
    by_cases e : a = b
    · rw [if_pos e]
    · rw [if_neg e]; exact c.2 a h1
theorem rm_1 {mi n b : Nat} (hc : (0 : Nat) + 1 ≤ (pm_cst mi).1) (hs : 0 + n ≤ (pm_cst mi).2) (hn : n ≤ 100000) (hb : b < 160) : pm_rm1 mi 0 0 n (SH.take (b + 1)) [(0, .ref b)] [.ref b] := by
  have l1 : (SH.take (b + 1)).length = b + 1 := sh_ln (by omega)
  refine ⟨hc, hs, hn, by omega, ?_, ?_⟩
  · intro q hq i e
    rw [List.mem_singleton] at hq
    subst hq
    cases e
    exact Or.inl (Nat.lt_of_lt_of_eq (Nat.lt_succ_self b) l1.symm)
  · intro v hv i e
    rw [List.mem_singleton] at hv
    subst hv
    cases e
    exact Or.inl (Nat.lt_of_lt_of_eq (Nat.lt_succ_self b) l1.symm)
theorem w_x69 {b e : Nat} (hb : b < 160) (hb1 : 1 ≤ b) (he : e < b) (h0 : SH[b]? = some (0, 6)) (h1 : SH[b + 1]? = some (3, 60)) (c : CN e b I L R) (x0 : I0 b = pm_up (pm_up (fun _ => 0) 0 (-1)) 1 0) (x1 : I0 (b + 1) = fun _ => 0) (y0 : RR K0 b = pm_up (fun _ => none) 2 (some (b + 1))) (y1 : RR K0 (b + 1) = fun _ => none)
    (h : ∀ (I' : pm_I) (L' : pm_L) (R' : pm_R), CF e (b + 2) I' L' R' → (∀ a, a = 0 ∨ a = e → I' a = I a ∧ L' a = L a ∧ R' a = R a) → Q none (SH.take (b + 2)) I' L' R') : pm_wp X (d + 1) 69 0 [(0, .ref b)] [] 0 0 (SH.take (b + 1)) I L R Q := by
  have e0 : (SH.take (b + 1))[b]? = some (0, 6) := (sh_at (by omega)).trans h0
  have e1 : (SH.take (b + 2))[b]? = some (0, 6) := (sh_at (by omega)).trans h0
  have l1 : (SH.take (b + 1)).length = b + 1 := sh_ln (by omega)
  have l2 : (SH.take (b + 2)).length = b + 2 := sh_ln (by omega)
  have t1 : SH.take (b + 1) ++ [(3, 60)] = SH.take (b + 2) := sh_tk h1
  have u0 : ∀ (f : Nat → Int32), pm_up I b f b = f := fun f => if_pos rfl
  have u1 : pm_up R (b + 1) (fun _ => none) b = R b := if_neg (by omega)
  refine pm_gos (n := 60) (stops := []) ?_
  simp only [st_iload_n, st_iload, st_lload_n, st_aload_n, st_aload, st_istore_n, st_istore, st_astore_n, st_astore, st_iconst, st_bipush, st_sipush, st_lconst, st_ldc, st_ldc_w, st_ldc2_w, st_getfield, st_putfieldI, st_putfieldR, st_getstatic, st_iaload, st_iastore, st_baload, st_bastore, st_laload, st_lastore, st_aaload, st_aastore, st_arraylength, st_iadd, st_isub, st_imul, st_iand, st_ior, st_ixor, st_ishl, st_ishr, st_idiv, st_irem, st_ineg, st_land, st_lor, st_lshl, st_i2l, st_l2i, st_i2b, st_i2s, st_i2c, st_lcmp, st_iinc, st_dupI, st_dupR, st_dup2, st_pop, st_goto, st_if_eq, st_icmp_eq, st_if_ne, st_icmp_ne, st_if_lt, st_icmp_lt, st_if_ge, st_icmp_ge, st_if_gt, st_icmp_gt, st_if_le, st_icmp_le, st_tsw, st_lsw, st_newarray, st_anewarray, st_new, st_invokevirtual, st_invokespecial, oin_ref, st_static, st_max, st_min, st_abs, st_copyi, st_copyl, st_ireturn, st_lreturn, st_areturn, st_return, rn_succ, inl_nil, inl_cons, rno_some, oi_some, ol_some, or_some, lk_cons, ins_nil, ins_cons, rm_nil, rm_int, rm_ref, rm_long, pop_0, pop_1, pop_2, pop_3, pop_4, pop_5, pop_6, la_nil, la_int, la_ref, la_long, cat_nil, cat_int, cat_ref, cat_long, call_succ, cont_some, cont_none, rcv_0, rcv_1, rcv_2, rcv_3, rcv_4, rcv_5, rcv_6, rcv_7, rcv_8, rcv_s, rf_some, ret_0, ret_10, ret_11, ret_ite, ite_0, sw_nil, sw_cons, ln_some, isk_some, al_some, ↓reduceIte, Nat.reduceAdd, Nat.reduceEqDiff, Nat.reduceLeDiff, Nat.reduceLT, Int32.reduceLT, Int32.reduceLE, Int32.reduceToNatClampNeg, Int32.reduceOfNat, Int32.reduceAdd, Int32.reduceSub, Int.reduceEq, Int.reduceNeg, Int.reduceLT, Int32.reduceOfInt, Int64.reduceOfInt, Bool.false_eq_true, true_and, and_true, eq_self, not_true_eq_false, not_false_eq_true, false_imp_iff, true_imp_iff, forall_const, or_true, true_or, ne_eq, Nat.zero_add, Nat.add_zero, Nat.le_refl, reduceCtorEq, Ft69, e0, e1, l1, l2, t1, u0, u1]
  refine ⟨by unfold pm_nf3; omega, rm_1 (by decide) (by decide) (by omega) hb, by omega, ?_⟩
  obtain ⟨⟨c1, c2⟩, c3, c4⟩ := c
  refine h _ _ _ ⟨fun a g1 ge g2 => ?_, fun a g1 => ?_⟩ (fun a ha => ?_)
  · unfold pm_up
    by_cases z : a = b + 1
    · subst z
      rw [if_pos rfl, if_pos rfl, if_neg (by omega), if_pos rfl]
      exact ⟨x1.symm, rfl, y1.symm⟩
    · by_cases w : a = b
      · subst w
        rw [if_neg z, if_pos rfl, if_neg z, if_pos rfl, c3, c4, c2 a (Nat.le_refl _)]
        exact ⟨x0.symm, rfl, y0.symm⟩
      · rw [if_neg z, if_neg w, if_neg w, if_neg z, if_neg w, if_neg z]
        exact c1 a g1 ge (by omega)
  · unfold pm_up
    rw [if_neg (by omega), if_neg (by omega)]
    exact c2 a (by omega)
  · have n1 : ¬ a = b := by omega
    have n2 : ¬ a = b + 1 := by omega
    unfold pm_up
    rw [if_neg n2, if_neg n1, if_neg n1, if_neg n2, if_neg n1, if_neg n2]
    exact ⟨rfl, rfl, rfl⟩
theorem scl_n {m : Nat} : pm_scl m [] := fun q hq => absurd hq List.not_mem_nil
theorem scl_r {m a j : Nat} {l : pm_l} (h : a < m) (g : pm_scl m l) : pm_scl m ((j, .ref a) :: l) := by
  intro q hq i e
  rcases List.mem_cons.mp hq with z | z
  · subst z; cases e; exact Or.inl h
  · exact g q z i e
theorem scl_i {m j : Nat} {x : Int32} {l : pm_l} (g : pm_scl m l) : pm_scl m ((j, .int x) :: l) := by
  intro q hq i e
  rcases List.mem_cons.mp hq with z | z
  · subst z; cases e
  · exact g q z i e
theorem scv_n {m : Nat} : pm_scv m [] := fun q hq => absurd hq List.not_mem_nil
theorem scv_r {m a : Nat} {l : List Value} (h : a < m) (g : pm_scv m l) : pm_scv m (.ref a :: l) := by
  intro q hq i e
  rcases List.mem_cons.mp hq with z | z
  · subst z; cases e; exact Or.inl h
  · exact g q z i e
theorem scv_i {m : Nat} {x : Int32} {l : List Value} (g : pm_scv m l) : pm_scv m (.int x :: l) := by
  intro q hq i e
  rcases List.mem_cons.mp hq with z | z
  · subst z; cases e
  · exact g q z i e
theorem rm_g {mi c s n m : Nat} {l : pm_l} {rest : List Value} (hm : m ≤ 170) (hc : c + 1 ≤ (pm_cst mi).1) (hs : s + n ≤ (pm_cst mi).2) (hn : n ≤ 100000) (hl : pm_scl m l) (hr : pm_scv m rest) : pm_rm1 mi c s n (SH.take m) l rest := by
  have l1 : (SH.take m).length = m := sh_ln hm
  unfold pm_rm1
  rw [l1]
  exact ⟨hc, hs, hn, by omega, hl, hr⟩
theorem up_0 {k : Nat} : pm_up (fun _ => (0 : Int32)) k 0 = fun _ => 0 := by
  funext j
  simp [pm_up]
theorem w_x29 {b e : Nat} (hb : b < 160) (hb1 : 1 ≤ b) (he : e < b) (h0 : SH[b]? = some (0, 3)) (h1 : SH[b + 1]? = some (1, 100)) (c : CN e b I L R) (x0 : I0 b = fun _ => 0) (x1 : I0 (b + 1) = fun _ => 0) (y0 : RR K0 b = pm_up (fun _ => none) 2 (some (b + 1))) (y1 : RR K0 (b + 1) = fun _ => none)
    (h : ∀ (I' : pm_I) (L' : pm_L) (R' : pm_R), CF e (b + 2) I' L' R' → (∀ a, a = 0 ∨ a = e → I' a = I a ∧ L' a = L a ∧ R' a = R a) → Q none (SH.take (b + 2)) I' L' R') : pm_wp X (d + 1) 29 0 [(0, .ref b)] [] 0 0 (SH.take (b + 1)) I L R Q := by
  have e0 : (SH.take (b + 1))[b]? = some (0, 3) := (sh_at (by omega)).trans h0
  have e1 : (SH.take (b + 2))[b]? = some (0, 3) := (sh_at (by omega)).trans h0
  have l1 : (SH.take (b + 1)).length = b + 1 := sh_ln (by omega)
  have l2 : (SH.take (b + 2)).length = b + 2 := sh_ln (by omega)
  have t1 : SH.take (b + 1) ++ [(1, 100)] = SH.take (b + 2) := sh_tk h1
  refine pm_gos (n := 60) (stops := []) ?_
  simp only [st_iload_n, st_iload, st_lload_n, st_aload_n, st_aload, st_istore_n, st_istore, st_astore_n, st_astore, st_iconst, st_bipush, st_sipush, st_lconst, st_ldc, st_ldc_w, st_ldc2_w, st_getfield, st_putfieldI, st_putfieldR, st_getstatic, st_iaload, st_iastore, st_baload, st_bastore, st_laload, st_lastore, st_aaload, st_aastore, st_arraylength, st_iadd, st_isub, st_imul, st_iand, st_ior, st_ixor, st_ishl, st_ishr, st_idiv, st_irem, st_ineg, st_land, st_lor, st_lshl, st_i2l, st_l2i, st_i2b, st_i2s, st_i2c, st_lcmp, st_iinc, st_dupI, st_dupR, st_dup2, st_pop, st_goto, st_if_eq, st_icmp_eq, st_if_ne, st_icmp_ne, st_if_lt, st_icmp_lt, st_if_ge, st_icmp_ge, st_if_gt, st_icmp_gt, st_if_le, st_icmp_le, st_tsw, st_lsw, st_newarray, st_anewarray, st_new, st_invokevirtual, st_invokespecial, oin_ref, st_static, st_max, st_min, st_abs, st_copyi, st_copyl, st_ireturn, st_lreturn, st_areturn, st_return, rn_succ, inl_nil, inl_cons, rno_some, oi_some, ol_some, or_some, lk_cons, ins_nil, ins_cons, rm_nil, rm_int, rm_ref, rm_long, pop_0, pop_1, pop_2, pop_3, pop_4, pop_5, pop_6, la_nil, la_int, la_ref, la_long, cat_nil, cat_int, cat_ref, cat_long, call_succ, cont_some, cont_none, rcv_0, rcv_1, rcv_2, rcv_3, rcv_4, rcv_5, rcv_6, rcv_7, rcv_8, rcv_s, rf_some, ret_0, ret_10, ret_11, ret_ite, ite_0, sw_nil, sw_cons, ln_some, isk_some, al_some, ↓reduceIte, Nat.reduceAdd, Nat.reduceEqDiff, Nat.reduceLeDiff, Nat.reduceLT, Int32.reduceLT, Int32.reduceLE, Int32.reduceToNatClampNeg, Int32.reduceOfNat, Int32.reduceAdd, Int32.reduceSub, Int.reduceEq, Int.reduceNeg, Int.reduceLT, Int32.reduceOfInt, Int64.reduceOfInt, Bool.false_eq_true, true_and, and_true, eq_self, not_true_eq_false, not_false_eq_true, false_imp_iff, true_imp_iff, forall_const, or_true, true_or, ne_eq, Nat.zero_add, Nat.add_zero, Nat.le_refl, reduceCtorEq, Ft29, e0, e1, l1, l2, t1]
  refine ⟨by unfold pm_nf3; omega, rm_g (by omega) (by decide) (by decide) (by omega) (scl_r (by omega) scl_n) (scv_r (by omega) scv_n), by omega, ?_⟩
  obtain ⟨⟨c1, c2⟩, c3, c4⟩ := c
  refine h _ _ _ ⟨fun a g1 ge g2 => ?_, fun a g1 => ?_⟩ (fun a ha => ?_)
  · by_cases z : a = b + 1
    · subst z
      simp [pm_up, x1, y1]
    · by_cases w : a = b
      · subst w
        simp [pm_up, c3, c4, x0, y0, c2 a (Nat.le_refl _)]
        rw [up_0, up_0, up_0]
      · simp [pm_up, z, w]
        exact c1 a g1 ge (by omega)
  · have n1 : ¬ a = b := by omega
    have n2 : ¬ a = b + 1 := by omega
    simp [pm_up, n1, n2]
    exact c2 a (by omega)
  · have n1 : ¬ a = b := by omega
    have n2 : ¬ a = b + 1 := by omega
    simp [pm_up, n1, n2]
theorem mx_0 : ∀ N, N < 11 → (if (0 : Int32) < nI N then nI N else 0) = nI N := by decide +kernel
theorem le_0 : ∀ N, N < 11 → (0 : Int32) ≤ nI N := by decide +kernel
theorem w_x44 {b e N : Nat} (hN : N < 11) (hb : b < 160) (hb1 : 1 ≤ b) (he : e < b) (h0 : SH[b]? = some (0, 4)) (h1 : SH[b + 1]? = some (1, N)) (h2 : SH[b + 2]? = some (1, N)) (h3 : SH[b + 3]? = some (1, N)) (c : CN e b I L R)
    (x0 : I0 b = fun _ => 0) (x1 : I0 (b + 1) = fun _ => 0) (x2 : I0 (b + 2) = fun _ => 0) (x3 : I0 (b + 3) = fun _ => 0) (y0 : RR K0 b = pm_up (pm_up (pm_up (fun _ => none) 1 (some (b + 1))) 2 (some (b + 2))) 3 (some (b + 3))) (y1 : RR K0 (b + 1) = fun _ => none) (y2 : RR K0 (b + 2) = fun _ => none) (y3 : RR K0 (b + 3) = fun _ => none)
    (h : ∀ (I' : pm_I) (L' : pm_L) (R' : pm_R), CF e (b + 4) I' L' R' → (∀ a, a = 0 ∨ a = e → I' a = I a ∧ L' a = L a ∧ R' a = R a) → Q none (SH.take (b + 4)) I' L' R') : pm_wp X (d + 1) 44 0 [(0, .ref b), (1, .int (nI N))] [] 0 0 (SH.take (b + 1)) I L R Q := by
  have e0 : (SH.take (b + 1))[b]? = some (0, 4) := (sh_at (by omega)).trans h0
  have e1 : (SH.take (b + 2))[b]? = some (0, 4) := (sh_at (by omega)).trans h0
  have e2 : (SH.take (b + 3))[b]? = some (0, 4) := (sh_at (by omega)).trans h0
  have e3 : (SH.take (b + 4))[b]? = some (0, 4) := (sh_at (by omega)).trans h0
  have l1 : (SH.take (b + 1)).length = b + 1 := sh_ln (by omega)
  have l2 : (SH.take (b + 2)).length = b + 2 := sh_ln (by omega)
  have l3 : (SH.take (b + 3)).length = b + 3 := sh_ln (by omega)
  have l4 : (SH.take (b + 4)).length = b + 4 := sh_ln (by omega)
  have t1 : SH.take (b + 1) ++ [(1, N)] = SH.take (b + 2) := sh_tk h1
  have t2 : SH.take (b + 2) ++ [(1, N)] = SH.take (b + 3) := sh_tk h2
  have t3 : SH.take (b + 3) ++ [(1, N)] = SH.take (b + 4) := sh_tk h3
  have cN : (nI N).toNatClampNeg = N := nI_clamp (by omega)
  have z := le_0 N hN
  have m0 := mx_0 N hN
  refine pm_gos (n := 60) (stops := []) ?_
  simp only [st_iload_n, st_iload, st_lload_n, st_aload_n, st_aload, st_istore_n, st_istore, st_astore_n, st_astore, st_iconst, st_bipush, st_sipush, st_lconst, st_ldc, st_ldc_w, st_ldc2_w, st_getfield, st_putfieldI, st_putfieldR, st_getstatic, st_iaload, st_iastore, st_baload, st_bastore, st_laload, st_lastore, st_aaload, st_aastore, st_arraylength, st_iadd, st_isub, st_imul, st_iand, st_ior, st_ixor, st_ishl, st_ishr, st_idiv, st_irem, st_ineg, st_land, st_lor, st_lshl, st_i2l, st_l2i, st_i2b, st_i2s, st_i2c, st_lcmp, st_iinc, st_dupI, st_dupR, st_dup2, st_pop, st_goto, st_if_eq, st_icmp_eq, st_if_ne, st_icmp_ne, st_if_lt, st_icmp_lt, st_if_ge, st_icmp_ge, st_if_gt, st_icmp_gt, st_if_le, st_icmp_le, st_tsw, st_lsw, st_newarray, st_anewarray, st_new, st_invokevirtual, st_invokespecial, oin_ref, st_static, st_max, st_min, st_abs, st_copyi, st_copyl, st_ireturn, st_lreturn, st_areturn, st_return, rn_succ, inl_nil, inl_cons, rno_some, oi_some, ol_some, or_some, lk_cons, ins_nil, ins_cons, rm_nil, rm_int, rm_ref, rm_long, pop_0, pop_1, pop_2, pop_3, pop_4, pop_5, pop_6, la_nil, la_int, la_ref, la_long, cat_nil, cat_int, cat_ref, cat_long, call_succ, cont_some, cont_none, rcv_0, rcv_1, rcv_2, rcv_3, rcv_4, rcv_5, rcv_6, rcv_7, rcv_8, rcv_s, rf_some, ret_0, ret_10, ret_11, ret_ite, ite_0, sw_nil, sw_cons, ln_some, isk_some, al_some, ↓reduceIte, Nat.reduceAdd, Nat.reduceEqDiff, Nat.reduceLeDiff, Nat.reduceLT, Int32.reduceLT, Int32.reduceLE, Int32.reduceToNatClampNeg, Int32.reduceOfNat, Int32.reduceAdd, Int32.reduceSub, Int.reduceEq, Int.reduceNeg, Int.reduceLT, Int32.reduceOfInt, Int64.reduceOfInt, Bool.false_eq_true, true_and, and_true, eq_self, not_true_eq_false, not_false_eq_true, false_imp_iff, true_imp_iff, forall_const, or_true, true_or, ne_eq, Nat.zero_add, Nat.add_zero, Nat.le_refl, reduceCtorEq, Ft44, e0, e1, e2, e3, l1, l2, l3, l4, t1, t2, t3, m0, cN]
  exact (0 : Nat)
end MAKE
