/-! THE MODEL reads a condition: the pile of what waits answers as the parts within parts -/
/-- at a place, with what waits and what is emitted -/
def EST (I : pm_I) (T : Nat → Int32) (s base M p : Nat) (W : List Int32) (O : List mk) : Prop := MD I T s p ∧ PQ I base W O ∧ O.length + W.length + M ≤ p
section MEX
variable {X : pm_X} {d : Nat} {L : pm_L} {Q : pm_Q} {K : Nat → Nat} {T : Nat → Int32} {s base c bb M : Nat} {I0 : pm_I}
/-- the loop's head -/
def LW (X : pm_X) (d : Nat) (L : pm_L) (K : Nat → Nat) (Q : pm_Q) (c : Nat) (w : Int32) (I : pm_I) : Prop := ∀ o : pm_l, (o = [] ∨ ∃ x, o = [(3, .int x)]) → pm_wp X (d + 4) 145 22 ([(0, .ref 122), (1, .int (nI c)), (2, .int w)] ++ o) [] 0 0 SH I L (RR K) Q
def NO (L : pm_L) (K : Nat → Nat) (Q : pm_Q) (T : Nat → Int32) (s c base : Nat) (I0 : pm_I) (p' : Nat) : Prop := ∀ I' : pm_I, MD I' T s p' → FE c base I' I0 → Q (some (.int 0)) SH I' L (RR K)
theorem est_push {I : pm_I} {p : Nat} {W : List Int32} {O : List mk} {b o' : Int32} (h : EST I T s base M p W O) (hp : p < s) (ho : o' = nI (opn (b :: W))) : EST (pm_up (pm_up I 136 (pm_up (I 136) W.length b)) 122 (pm_up (pm_up (pm_up (I 122) 25 o') 24 (nI (W.length + 1))) 13 (nI (p + 1)))) T s base M (p + 1) (b :: W) O := by
  obtain ⟨⟨r1, r2, r3, r4, r5⟩, ⟨p1, p2, p3, p4, p5⟩, h3⟩ := h
  have e122 : ∀ (u : Nat → Int32) (k : Nat), pm_up (pm_up I 136 (pm_up (I 136) W.length b)) 122 u 122 k = u k := fun u k => by rw [pm_up_eq]
  have e136 : ∀ u : Nat → Int32, pm_up (pm_up I 136 (pm_up (I 136) W.length b)) 122 u 136 = pm_up (I 136) W.length b := fun u => by rw [pm_up_ne (by omega), pm_up_eq]
  have eo : ∀ (u : Nat → Int32) (a : Nat), a ≠ 122 → a ≠ 136 → pm_up (pm_up I 136 (pm_up (I 136) W.length b)) 122 u a = I a := fun u a h1 h2 => by rw [pm_up_ne h1, pm_up_ne h2]
  refine ⟨⟨?_, ?_, r3, by omega, fun j hj => by rw [eo _ 129 (by omega) (by omega)]; exact r5 j hj⟩, ⟨?_, fun j x hj => ?_, ?_, fun j m hj => by rw [eo _ 135 (by omega) (by omega)]; exact p4 j m hj, ?_⟩, by rw [List.length_cons]; omega⟩
  · rw [e122, pm_up_ne (by omega), pm_up_ne (by omega), pm_up_ne (by omega)]; exact r1
  · rw [e122, pm_up_eq]
  · rw [e122, pm_up_ne (by omega), pm_up_eq, List.length_cons]
  · rw [e136]
    cases j with
    | zero =>
      obtain rfl : b = x := by simpa using hj
      rw [List.length_cons, show W.length + 1 - 1 - 0 = W.length by omega, pm_up_eq]
    | succ j =>
      have hj' : W[j]? = some x := by simpa using hj
      have hl := (List.getElem?_eq_some_iff.mp hj').1
      rw [List.length_cons, show W.length + 1 - 1 - (j + 1) = W.length - 1 - j by omega, pm_up_ne (by omega)]
      exact p2 j x hj'
  · rw [e122, pm_up_ne (by omega), pm_up_ne (by omega), pm_up_ne (by omega)]; exact p3
  · rw [e122, pm_up_ne (by omega), pm_up_ne (by omega), pm_up_eq, ho]
theorem fe_push {I : pm_I} {W : List Int32} {b : Int32} {u : Nat → Int32} (hu : ∀ j, (j < 13 ∨ 14 < j) → (j < 23 ∨ 25 < j) → u j = I 122 j) : FE c base (pm_up (pm_up I 136 (pm_up (I 136) W.length b)) 122 u) I :=
  ⟨fun a h1 h2 h3 h4 => by rw [pm_up_ne h1, pm_up_ne h4], fun k hk => by rw [pm_up_ne (by omega), pm_up_ne (by omega)], fun k hk => by rw [pm_up_ne (by omega), pm_up_ne (by omega)], fun k h1 h2 => by rw [pm_up_eq]; exact hu k h1 h2⟩
/-- a ! or ( is put on the pile -/
theorem m_open {I : pm_I} {p : Nat} {W : List Int32} {O : List mk} {b : Int32} (hb : b = 33 ∨ b = 40) (h : EST I T s base M p W O) (hf : FE c base I I0) (hsg : sgT T s p = b)
    (h4 : opn W = 4 → NO L K Q T s c base I0 p) (h1 : opn W < 4 → ∀ I' : pm_I, EST I' T s base M (p + 1) (b :: W) O → FE c base I' I0 → LW X d L K Q c 1 I') (ho4 : opn W ≤ 4) : LW X d L K Q c 1 I := by
  intro o ho
  obtain ⟨hr, hp, hl⟩ := id h
  obtain ⟨r1, r2, r3, r4, r5⟩ := id hr
  obtain ⟨p1, p2, p3, p4, p5⟩ := id hp
  have hps : p < s := sg_lt hsg (by rcases hb with rfl | rfl <;> decide)
  have hv : vp_in (nI W.length) 101 := vi (by omega) (by omega)
  have hc : (nI W.length).toNatClampNeg = W.length := nI_clamp (by omega)
  have at43 : pm_wp X (d + 4) 145 43 [(0, .ref 122), (1, .int (nI c)), (2, .int 1), (3, .int b)] [] 0 0 SH I L (RR K) Q := by
    by_cases h44 : opn W = 4
    · have e : nI 4 = 4 := rfl
      rw [h44] at p5
      refine pm_run_wp (n := 60) (stops := [22]) ?_
      simp only [st_iload_n, st_iload, st_lload_n, st_aload_n, st_aload, st_istore_n, st_istore, st_astore_n, st_astore, st_iconst, st_bipush, st_sipush, st_lconst, st_ldc, st_ldc_w, st_ldc2_w, st_getfield, st_putfieldI, st_putfieldR, st_getstatic, st_iaload, st_iastore, st_baload, st_bastore, st_laload, st_lastore, st_aaload, st_aastore, st_arraylength, st_iadd, st_isub, st_imul, st_iand, st_ior, st_ixor, st_ishl, st_ishr, st_idiv, st_irem, st_ineg, st_land, st_lor, st_lshl, st_i2l, st_l2i, st_i2b, st_i2s, st_i2c, st_lcmp, st_iinc, st_dupI, st_dupR, st_dup2, st_pop, st_goto, st_if_eq, st_icmp_eq, st_if_ne, st_icmp_ne, st_if_lt, st_icmp_lt, st_if_ge, st_icmp_ge, st_if_gt, st_icmp_gt, st_if_le, st_icmp_le, st_tsw, st_lsw, st_newarray, st_anewarray, st_new, st_invokevirtual, st_invokespecial, oin_ref, st_static, st_max, st_min, st_abs, st_copyi, st_copyl, st_ireturn, st_lreturn, st_areturn, st_return, rn_succ, inl_nil, inl_cons, rno_some, oi_some, ol_some, or_some, lk_cons, ins_nil, ins_cons, rm_nil, rm_int, rm_ref, rm_long, pop_0, pop_1, pop_2, pop_3, pop_4, pop_5, pop_6, la_nil, la_int, la_ref, la_long, cat_nil, cat_int, cat_ref, cat_long, call_succ, cont_some, cont_none, rcv_0, rcv_1, rcv_2, rcv_3, rcv_4, rcv_5, rcv_6, rcv_7, rcv_8, rcv_s, rf_some, ret_0, ret_10, ret_11, ret_ite, ite_0, sw_nil, sw_cons, ln_some, isk_some, al_some, ↓reduceIte, Nat.reduceAdd, Nat.reduceEqDiff, Nat.reduceLeDiff, Nat.reduceLT, Int32.reduceLT, Int32.reduceLE, Int32.reduceToNatClampNeg, Int32.reduceOfNat, Int32.reduceAdd, Int32.reduceSub, Int.reduceEq, Int.reduceNeg, Int.reduceLT, Int32.reduceOfInt, Int64.reduceOfInt, Bool.false_eq_true, true_and, and_true, eq_self, not_true_eq_false, not_false_eq_true, false_imp_iff, true_imp_iff, forall_const, or_true, true_or, ne_eq, Nat.zero_add, Nat.add_zero, Nat.le_refl, reduceCtorEq, Ft145, shF, p5, e]
      exact h4 h44 I hr hf
    · have hne : (nI (opn W) = 4) = False := eq_false (fun z => h44 ((nI_eq (b := 4) (by omega) (by omega)).mp z))
      have z2 : ∀ (J : pm_I) (u v : Nat → Int32), pm_up (pm_up J 122 u) 122 v = pm_up J 122 v := fun J u v => by
        funext a
        by_cases ha : a = 122
        · subst ha; rw [pm_up_eq, pm_up_eq]
        · rw [pm_up_ne ha, pm_up_ne ha, pm_up_ne ha]
      have z3 : ∀ (J : pm_I) (u v : Nat → Int32), pm_up (pm_up J 122 u) 136 v = pm_up (pm_up J 136 v) 122 u := fun J u v => by
        funext a
        by_cases ha : a = 122
        · subst ha; rw [pm_up_ne (by omega), pm_up_eq, pm_up_eq]
        · by_cases ha2 : a = 136
          · subst ha2; rw [pm_up_eq, pm_up_ne (by omega), pm_up_eq]
          · rw [pm_up_ne ha2, pm_up_ne ha, pm_up_ne ha, pm_up_ne ha2]
      refine pm_run_wp (n := 90) (stops := [22]) ?_
      simp only [st_iload_n, st_iload, st_lload_n, st_aload_n, st_aload, st_istore_n, st_istore, st_astore_n, st_astore, st_iconst, st_bipush, st_sipush, st_lconst, st_ldc, st_ldc_w, st_ldc2_w, st_getfield, st_putfieldI, st_putfieldR, st_getstatic, st_iaload, st_iastore, st_baload, st_bastore, st_laload, st_lastore, st_aaload, st_aastore, st_arraylength, st_iadd, st_isub, st_imul, st_iand, st_ior, st_ixor, st_ishl, st_ishr, st_idiv, st_irem, st_ineg, st_land, st_lor, st_lshl, st_i2l, st_l2i, st_i2b, st_i2s, st_i2c, st_lcmp, st_iinc, st_dupI, st_dupR, st_dup2, st_pop, st_goto, st_if_eq, st_icmp_eq, st_if_ne, st_icmp_ne, st_if_lt, st_icmp_lt, st_if_ge, st_icmp_ge, st_if_gt, st_icmp_gt, st_if_le, st_icmp_le, st_tsw, st_lsw, st_newarray, st_anewarray, st_new, st_invokevirtual, st_invokespecial, oin_ref, st_static, st_max, st_min, st_abs, st_copyi, st_copyl, st_ireturn, st_lreturn, st_areturn, st_return, rn_succ, inl_nil, inl_cons, rno_some, oi_some, ol_some, or_some, lk_cons, ins_nil, ins_cons, rm_nil, rm_int, rm_ref, rm_long, pop_0, pop_1, pop_2, pop_3, pop_4, pop_5, pop_6, la_nil, la_int, la_ref, la_long, cat_nil, cat_int, cat_ref, cat_long, call_succ, cont_some, cont_none, rcv_0, rcv_1, rcv_2, rcv_3, rcv_4, rcv_5, rcv_6, rcv_7, rcv_8, rcv_s, rf_some, ret_0, ret_10, ret_11, ret_ite, ite_0, sw_nil, sw_cons, ln_some, isk_some, al_some, ↓reduceIte, Nat.reduceAdd, Nat.reduceEqDiff, Nat.reduceLeDiff, Nat.reduceLT, Int32.reduceLT, Int32.reduceLE, Int32.reduceToNatClampNeg, Int32.reduceOfNat, Int32.reduceAdd, Int32.reduceSub, Int.reduceEq, Int.reduceNeg, Int.reduceLT, Int32.reduceOfInt, Int64.reduceOfInt, Bool.false_eq_true, true_and, and_true, eq_self, not_true_eq_false, not_false_eq_true, false_imp_iff, true_imp_iff, forall_const, or_true, true_or, ne_eq, Nat.zero_add, Nat.add_zero, Nat.le_refl, reduceCtorEq, Ft145, shF, rrF K, p5, hne, p1, r2, hv, hc, nI_1, pm_up_eq, z2, z3, pm_upa]
      have e1 := est_push (b := b) (o' := nI (opn W + 1)) h hps (by
        congr 1
        show _ = (if b = 33 ∨ b = 40 then 1 else 0) + opn W
        rw [if_pos hb]
        omega)
      have f1 : FE c base _ I0 := fe_tr (fe_push (W := W) (b := b) (u := pm_up (pm_up (pm_up (I 122) 25 (nI (opn W + 1))) 24 (nI (W.length + 1))) 13 (nI (p + 1))) (fun j a1 a2 => by rw [pm_up_ne (by omega), pm_up_ne (by omega), pm_up_ne (by omega)])) hf
      exact h1 (by omega) _ e1 f1 [(3, .int b)] (Or.inr ⟨_, rfl⟩)
  rcases ho with rfl | ⟨x0, rfl⟩
  all_goals
    simp only [List.append_nil, List.cons_append, List.nil_append]
    refine pm_gos (n := 60) (stops := [22, 43]) ?_
    simp only [st_iload_n, st_iload, st_lload_n, st_aload_n, st_aload, st_istore_n, st_istore, st_astore_n, st_astore, st_iconst, st_bipush, st_sipush, st_lconst, st_ldc, st_ldc_w, st_ldc2_w, st_getfield, st_putfieldI, st_putfieldR, st_getstatic, st_iaload, st_iastore, st_baload, st_bastore, st_laload, st_lastore, st_aaload, st_aastore, st_arraylength, st_iadd, st_isub, st_imul, st_iand, st_ior, st_ixor, st_ishl, st_ishr, st_idiv, st_irem, st_ineg, st_land, st_lor, st_lshl, st_i2l, st_l2i, st_i2b, st_i2s, st_i2c, st_lcmp, st_iinc, st_dupI, st_dupR, st_dup2, st_pop, st_goto, st_if_eq, st_icmp_eq, st_if_ne, st_icmp_ne, st_if_lt, st_icmp_lt, st_if_ge, st_icmp_ge, st_if_gt, st_icmp_gt, st_if_le, st_icmp_le, st_tsw, st_lsw, st_newarray, st_anewarray, st_new, st_invokevirtual, st_invokespecial, oin_ref, st_static, st_max, st_min, st_abs, st_copyi, st_copyl, st_ireturn, st_lreturn, st_areturn, st_return, rn_succ, inl_nil, inl_cons, rno_some, oi_some, ol_some, or_some, lk_cons, ins_nil, ins_cons, rm_nil, rm_int, rm_ref, rm_long, pop_0, pop_1, pop_2, pop_3, pop_4, pop_5, pop_6, la_nil, la_int, la_ref, la_long, cat_nil, cat_int, cat_ref, cat_long, call_succ, cont_some, cont_none, rcv_0, rcv_1, rcv_2, rcv_3, rcv_4, rcv_5, rcv_6, rcv_7, rcv_8, rcv_s, rf_some, ret_0, ret_10, ret_11, ret_ite, ite_0, sw_nil, sw_cons, ln_some, isk_some, al_some, ↓reduceIte, Nat.reduceAdd, Nat.reduceEqDiff, Nat.reduceLeDiff, Nat.reduceLT, Int32.reduceLT, Int32.reduceLE, Int32.reduceToNatClampNeg, Int32.reduceOfNat, Int32.reduceAdd, Int32.reduceSub, Int.reduceEq, Int.reduceNeg, Int.reduceLT, Int32.reduceOfInt, Int64.reduceOfInt, Bool.false_eq_true, true_and, and_true, eq_self, not_true_eq_false, not_false_eq_true, false_imp_iff, true_imp_iff, forall_const, or_true, true_or, ne_eq, Nat.zero_add, Nat.add_zero, Nat.le_refl, reduceCtorEq, Ft145, shF]
    refine m_next hr ?_
    rw [hsg]
    rcases hb with rfl | rfl
    · simp only [st_iload_n, st_iload, st_lload_n, st_aload_n, st_aload, st_istore_n, st_istore, st_astore_n, st_astore, st_iconst, st_bipush, st_sipush, st_lconst, st_ldc, st_ldc_w, st_ldc2_w, st_getfield, st_putfieldI, st_putfieldR, st_getstatic, st_iaload, st_iastore, st_baload, st_bastore, st_laload, st_lastore, st_aaload, st_aastore, st_arraylength, st_iadd, st_isub, st_imul, st_iand, st_ior, st_ixor, st_ishl, st_ishr, st_idiv, st_irem, st_ineg, st_land, st_lor, st_lshl, st_i2l, st_l2i, st_i2b, st_i2s, st_i2c, st_lcmp, st_iinc, st_dupI, st_dupR, st_dup2, st_pop, st_goto, st_if_eq, st_icmp_eq, st_if_ne, st_icmp_ne, st_if_lt, st_icmp_lt, st_if_ge, st_icmp_ge, st_if_gt, st_icmp_gt, st_if_le, st_icmp_le, st_tsw, st_lsw, st_newarray, st_anewarray, st_new, st_invokevirtual, st_invokespecial, oin_ref, st_static, st_max, st_min, st_abs, st_copyi, st_copyl, st_ireturn, st_lreturn, st_areturn, st_return, rn_succ, inl_nil, inl_cons, rno_some, oi_some, ol_some, or_some, lk_cons, ins_nil, ins_cons, rm_nil, rm_int, rm_ref, rm_long, pop_0, pop_1, pop_2, pop_3, pop_4, pop_5, pop_6, la_nil, la_int, la_ref, la_long, cat_nil, cat_int, cat_ref, cat_long, call_succ, cont_some, cont_none, rcv_0, rcv_1, rcv_2, rcv_3, rcv_4, rcv_5, rcv_6, rcv_7, rcv_8, rcv_s, rf_some, ret_0, ret_10, ret_11, ret_ite, ite_0, sw_nil, sw_cons, ln_some, isk_some, al_some, ↓reduceIte, Nat.reduceAdd, Nat.reduceEqDiff, Nat.reduceLeDiff, Nat.reduceLT, Int32.reduceLT, Int32.reduceLE, Int32.reduceToNatClampNeg, Int32.reduceOfNat, Int32.reduceAdd, Int32.reduceSub, Int.reduceEq, Int.reduceNeg, Int.reduceLT, Int32.reduceOfInt, Int64.reduceOfInt, Bool.false_eq_true, true_and, and_true, eq_self, not_true_eq_false, not_false_eq_true, false_imp_iff, true_imp_iff, forall_const, or_true, true_or, ne_eq, Nat.zero_add, Nat.add_zero, Nat.le_refl, reduceCtorEq, Ft145, i10]
      exact at43
    · simp only [st_iload_n, st_iload, st_lload_n, st_aload_n, st_aload, st_istore_n, st_istore, st_astore_n, st_astore, st_iconst, st_bipush, st_sipush, st_lconst, st_ldc, st_ldc_w, st_ldc2_w, st_getfield, st_putfieldI, st_putfieldR, st_getstatic, st_iaload, st_iastore, st_baload, st_bastore, st_laload, st_lastore, st_aaload, st_aastore, st_arraylength, st_iadd, st_isub, st_imul, st_iand, st_ior, st_ixor, st_ishl, st_ishr, st_idiv, st_irem, st_ineg, st_land, st_lor, st_lshl, st_i2l, st_l2i, st_i2b, st_i2s, st_i2c, st_lcmp, st_iinc, st_dupI, st_dupR, st_dup2, st_pop, st_goto, st_if_eq, st_icmp_eq, st_if_ne, st_icmp_ne, st_if_lt, st_icmp_lt, st_if_ge, st_icmp_ge, st_if_gt, st_icmp_gt, st_if_le, st_icmp_le, st_tsw, st_lsw, st_newarray, st_anewarray, st_new, st_invokevirtual, st_invokespecial, oin_ref, st_static, st_max, st_min, st_abs, st_copyi, st_copyl, st_ireturn, st_lreturn, st_areturn, st_return, rn_succ, inl_nil, inl_cons, rno_some, oi_some, ol_some, or_some, lk_cons, ins_nil, ins_cons, rm_nil, rm_int, rm_ref, rm_long, pop_0, pop_1, pop_2, pop_3, pop_4, pop_5, pop_6, la_nil, la_int, la_ref, la_long, cat_nil, cat_int, cat_ref, cat_long, call_succ, cont_some, cont_none, rcv_0, rcv_1, rcv_2, rcv_3, rcv_4, rcv_5, rcv_6, rcv_7, rcv_8, rcv_s, rf_some, ret_0, ret_10, ret_11, ret_ite, ite_0, sw_nil, sw_cons, ln_some, isk_some, al_some, ↓reduceIte, Nat.reduceAdd, Nat.reduceEqDiff, Nat.reduceLeDiff, Nat.reduceLT, Int32.reduceLT, Int32.reduceLE, Int32.reduceToNatClampNeg, Int32.reduceOfNat, Int32.reduceAdd, Int32.reduceSub, Int.reduceEq, Int.reduceNeg, Int.reduceLT, Int32.reduceOfInt, Int64.reduceOfInt, Bool.false_eq_true, true_and, and_true, eq_self, not_true_eq_false, not_false_eq_true, false_imp_iff, true_imp_iff, forall_const, or_true, true_or, ne_eq, Nat.zero_add, Nat.add_zero, Nat.le_refl, reduceCtorEq, Ft145, i10, show ((40 : Int32) = 33) = False from by decide]
      exact at43
/-- a test, where a part may begin -/
theorem m_tst {I : pm_I} {p j : Nat} {W0 : List Int32} {O : List mk} (hbb : base = bb + M ∧ bb ≤ 500) (hW0 : ∀ b r, W0 = b :: r → ¬ b = 33) (h : EST I T s base M p (bgs j ++ W0) O) (hf : FE c base I I0) (n33 : ¬ sgT T s p = 33) (n40 : ¬ sgT T s p = 40)
    (h0 : ∀ p', tstF T s p = (p', none) → NO L K Q T s c base I0 p') (h1 : ∀ p' ms, tstF T s p = (p', some ms) → ∀ I' : pm_I, EST I' T s base M p' W0 (O ++ ms ++ bgm j) → FE c base I' I0 → LW X d L K Q c 0 I') : LW X d L K Q c 1 I := by
  intro o ho
  obtain ⟨hr, hp, hl⟩ := id h
  rcases ho with rfl | ⟨x0, rfl⟩
  all_goals
    simp only [List.append_nil, List.cons_append, List.nil_append]
    refine pm_gos (n := 60) (stops := [22]) ?_
    simp only [st_iload_n, st_iload, st_lload_n, st_aload_n, st_aload, st_istore_n, st_istore, st_astore_n, st_astore, st_iconst, st_bipush, st_sipush, st_lconst, st_ldc, st_ldc_w, st_ldc2_w, st_getfield, st_putfieldI, st_putfieldR, st_getstatic, st_iaload, st_iastore, st_baload, st_bastore, st_laload, st_lastore, st_aaload, st_aastore, st_arraylength, st_iadd, st_isub, st_imul, st_iand, st_ior, st_ixor, st_ishl, st_ishr, st_idiv, st_irem, st_ineg, st_land, st_lor, st_lshl, st_i2l, st_l2i, st_i2b, st_i2s, st_i2c, st_lcmp, st_iinc, st_dupI, st_dupR, st_dup2, st_pop, st_goto, st_if_eq, st_icmp_eq, st_if_ne, st_icmp_ne, st_if_lt, st_icmp_lt, st_if_ge, st_icmp_ge, st_if_gt, st_icmp_gt, st_if_le, st_icmp_le, st_tsw, st_lsw, st_newarray, st_anewarray, st_new, st_invokevirtual, st_invokespecial, oin_ref, st_static, st_max, st_min, st_abs, st_copyi, st_copyl, st_ireturn, st_lreturn, st_areturn, st_return, rn_succ, inl_nil, inl_cons, rno_some, oi_some, ol_some, or_some, lk_cons, ins_nil, ins_cons, rm_nil, rm_int, rm_ref, rm_long, pop_0, pop_1, pop_2, pop_3, pop_4, pop_5, pop_6, la_nil, la_int, la_ref, la_long, cat_nil, cat_int, cat_ref, cat_long, call_succ, cont_some, cont_none, rcv_0, rcv_1, rcv_2, rcv_3, rcv_4, rcv_5, rcv_6, rcv_7, rcv_8, rcv_s, rf_some, ret_0, ret_10, ret_11, ret_ite, ite_0, sw_nil, sw_cons, ln_some, isk_some, al_some, ↓reduceIte, Nat.reduceAdd, Nat.reduceEqDiff, Nat.reduceLeDiff, Nat.reduceLT, Int32.reduceLT, Int32.reduceLE, Int32.reduceToNatClampNeg, Int32.reduceOfNat, Int32.reduceAdd, Int32.reduceSub, Int.reduceEq, Int.reduceNeg, Int.reduceLT, Int32.reduceOfInt, Int64.reduceOfInt, Bool.false_eq_true, true_and, and_true, eq_self, not_true_eq_false, not_false_eq_true, false_imp_iff, true_imp_iff, forall_const, or_true, true_or, ne_eq, Nat.zero_add, Nat.add_zero, Nat.le_refl, reduceCtorEq, Ft145, shF]
    refine m_next hr ?_
    simp only [st_iload_n, st_iload, st_lload_n, st_aload_n, st_aload, st_istore_n, st_istore, st_astore_n, st_astore, st_iconst, st_bipush, st_sipush, st_lconst, st_ldc, st_ldc_w, st_ldc2_w, st_getfield, st_putfieldI, st_putfieldR, st_getstatic, st_iaload, st_iastore, st_baload, st_bastore, st_laload, st_lastore, st_aaload, st_aastore, st_arraylength, st_iadd, st_isub, st_imul, st_iand, st_ior, st_ixor, st_ishl, st_ishr, st_idiv, st_irem, st_ineg, st_land, st_lor, st_lshl, st_i2l, st_l2i, st_i2b, st_i2s, st_i2c, st_lcmp, st_iinc, st_dupI, st_dupR, st_dup2, st_pop, st_goto, st_if_eq, st_icmp_eq, st_if_ne, st_icmp_ne, st_if_lt, st_icmp_lt, st_if_ge, st_icmp_ge, st_if_gt, st_icmp_gt, st_if_le, st_icmp_le, st_tsw, st_lsw, st_newarray, st_anewarray, st_new, st_invokevirtual, st_invokespecial, oin_ref, st_static, st_max, st_min, st_abs, st_copyi, st_copyl, st_ireturn, st_lreturn, st_areturn, st_return, rn_succ, inl_nil, inl_cons, rno_some, oi_some, ol_some, or_some, lk_cons, ins_nil, ins_cons, rm_nil, rm_int, rm_ref, rm_long, pop_0, pop_1, pop_2, pop_3, pop_4, pop_5, pop_6, la_nil, la_int, la_ref, la_long, cat_nil, cat_int, cat_ref, cat_long, call_succ, cont_some, cont_none, rcv_0, rcv_1, rcv_2, rcv_3, rcv_4, rcv_5, rcv_6, rcv_7, rcv_8, rcv_s, rf_some, ret_0, ret_10, ret_11, ret_ite, ite_0, sw_nil, sw_cons, ln_some, isk_some, al_some, ↓reduceIte, Nat.reduceAdd, Nat.reduceEqDiff, Nat.reduceLeDiff, Nat.reduceLT, Int32.reduceLT, Int32.reduceLE, Int32.reduceToNatClampNeg, Int32.reduceOfNat, Int32.reduceAdd, Int32.reduceSub, Int.reduceEq, Int.reduceNeg, Int.reduceLT, Int32.reduceOfInt, Int64.reduceOfInt, Bool.false_eq_true, true_and, and_true, eq_self, not_true_eq_false, not_false_eq_true, false_imp_iff, true_imp_iff, forall_const, or_true, true_or, ne_eq, Nat.zero_add, Nat.add_zero, Nat.le_refl, reduceCtorEq, Ft145, shF, i10, n33, n40]
    refine m_takesTest (c := c) hW0 hr hp hl hbb (fun p' e I1 a1 a2 => ?_) (fun p' ms e I1 a1 a2 a3 => ?_)
    · simp only [st_iload_n, st_iload, st_lload_n, st_aload_n, st_aload, st_istore_n, st_istore, st_astore_n, st_astore, st_iconst, st_bipush, st_sipush, st_lconst, st_ldc, st_ldc_w, st_ldc2_w, st_getfield, st_putfieldI, st_putfieldR, st_getstatic, st_iaload, st_iastore, st_baload, st_bastore, st_laload, st_lastore, st_aaload, st_aastore, st_arraylength, st_iadd, st_isub, st_imul, st_iand, st_ior, st_ixor, st_ishl, st_ishr, st_idiv, st_irem, st_ineg, st_land, st_lor, st_lshl, st_i2l, st_l2i, st_i2b, st_i2s, st_i2c, st_lcmp, st_iinc, st_dupI, st_dupR, st_dup2, st_pop, st_goto, st_if_eq, st_icmp_eq, st_if_ne, st_icmp_ne, st_if_lt, st_icmp_lt, st_if_ge, st_icmp_ge, st_if_gt, st_icmp_gt, st_if_le, st_icmp_le, st_tsw, st_lsw, st_newarray, st_anewarray, st_new, st_invokevirtual, st_invokespecial, oin_ref, st_static, st_max, st_min, st_abs, st_copyi, st_copyl, st_ireturn, st_lreturn, st_areturn, st_return, rn_succ, inl_nil, inl_cons, rno_some, oi_some, ol_some, or_some, lk_cons, ins_nil, ins_cons, rm_nil, rm_int, rm_ref, rm_long, pop_0, pop_1, pop_2, pop_3, pop_4, pop_5, pop_6, la_nil, la_int, la_ref, la_long, cat_nil, cat_int, cat_ref, cat_long, call_succ, cont_some, cont_none, rcv_0, rcv_1, rcv_2, rcv_3, rcv_4, rcv_5, rcv_6, rcv_7, rcv_8, rcv_s, rf_some, ret_0, ret_10, ret_11, ret_ite, ite_0, sw_nil, sw_cons, ln_some, isk_some, al_some, ↓reduceIte, Nat.reduceAdd, Nat.reduceEqDiff, Nat.reduceLeDiff, Nat.reduceLT, Int32.reduceLT, Int32.reduceLE, Int32.reduceToNatClampNeg, Int32.reduceOfNat, Int32.reduceAdd, Int32.reduceSub, Int.reduceEq, Int.reduceNeg, Int.reduceLT, Int32.reduceOfInt, Int64.reduceOfInt, Bool.false_eq_true, true_and, and_true, eq_self, not_true_eq_false, not_false_eq_true, false_imp_iff, true_imp_iff, forall_const, or_true, true_or, ne_eq, Nat.zero_add, Nat.add_zero, Nat.le_refl, reduceCtorEq, Ft145]
      exact h0 p' e I1 a1 (fe_tr a2 hf)
    · simp only [st_iload_n, st_iload, st_lload_n, st_aload_n, st_aload, st_istore_n, st_istore, st_astore_n, st_astore, st_iconst, st_bipush, st_sipush, st_lconst, st_ldc, st_ldc_w, st_ldc2_w, st_getfield, st_putfieldI, st_putfieldR, st_getstatic, st_iaload, st_iastore, st_baload, st_bastore, st_laload, st_lastore, st_aaload, st_aastore, st_arraylength, st_iadd, st_isub, st_imul, st_iand, st_ior, st_ixor, st_ishl, st_ishr, st_idiv, st_irem, st_ineg, st_land, st_lor, st_lshl, st_i2l, st_l2i, st_i2b, st_i2s, st_i2c, st_lcmp, st_iinc, st_dupI, st_dupR, st_dup2, st_pop, st_goto, st_if_eq, st_icmp_eq, st_if_ne, st_icmp_ne, st_if_lt, st_icmp_lt, st_if_ge, st_icmp_ge, st_if_gt, st_icmp_gt, st_if_le, st_icmp_le, st_tsw, st_lsw, st_newarray, st_anewarray, st_new, st_invokevirtual, st_invokespecial, oin_ref, st_static, st_max, st_min, st_abs, st_copyi, st_copyl, st_ireturn, st_lreturn, st_areturn, st_return, rn_succ, inl_nil, inl_cons, rno_some, oi_some, ol_some, or_some, lk_cons, ins_nil, ins_cons, rm_nil, rm_int, rm_ref, rm_long, pop_0, pop_1, pop_2, pop_3, pop_4, pop_5, pop_6, la_nil, la_int, la_ref, la_long, cat_nil, cat_int, cat_ref, cat_long, call_succ, cont_some, cont_none, rcv_0, rcv_1, rcv_2, rcv_3, rcv_4, rcv_5, rcv_6, rcv_7, rcv_8, rcv_s, rf_some, ret_0, ret_10, ret_11, ret_ite, ite_0, sw_nil, sw_cons, ln_some, isk_some, al_some, ↓reduceIte, Nat.reduceAdd, Nat.reduceEqDiff, Nat.reduceLeDiff, Nat.reduceLT, Int32.reduceLT, Int32.reduceLE, Int32.reduceToNatClampNeg, Int32.reduceOfNat, Int32.reduceAdd, Int32.reduceSub, Int.reduceEq, Int.reduceNeg, Int.reduceLT, Int32.reduceOfInt, Int64.reduceOfInt, Bool.false_eq_true, true_and, and_true, eq_self, not_true_eq_false, not_false_eq_true, false_imp_iff, true_imp_iff, forall_const, or_true, true_or, ne_eq, Nat.zero_add, Nat.add_zero, Nat.le_refl, reduceCtorEq, Ft145, i10]
      obtain ⟨l1, l2⟩ := tst_len e
      rw [List.length_append, bgs_len] at hl
      exact h1 p' ms e I1 ⟨a1, a2, by rw [List.length_append, List.length_append, bgm_len, l1]; omega⟩ (fe_tr a3 hf) [(3, .int _)] (Or.inr ⟨_, rfl⟩)
/-- what a part gives -/
def PA (X : pm_X) (d : Nat) (L : pm_L) (K : Nat → Nat) (Q : pm_Q) (T : Nat → Int32) (s base c M m : Nat) (I0 : pm_I) : Prop :=
  ∀ (j p : Nat) (W0 : List Int32) (O : List mk) (I : pm_I), (∀ b r, W0 = b :: r → ¬ b = 33) → m + j + opn W0 = 4 → EST I T s base M p (bgs j ++ W0) O → FE c base I I0 →
    (∀ p', ptF T s m p = (p', none) → NO L K Q T s c base I0 p') → (∀ p' ms, ptF T s m p = (p', some ms) → ∀ I' : pm_I, EST I' T s base M p' W0 (O ++ ms ++ bgm j) → FE c base I' I0 → LW X d L K Q c 0 I') → LW X d L K Q c 1 I
/-- an operator is put on the pile, behind what it settles -/
theorem m_oper {I : pm_I} {p : Nat} {A C : List Int32} {O : List mk} {b : Int32} (hbb : base = bb + M ∧ bb ≤ 500) (hb : b = 38 ∨ b = 124) (hA : ∀ x ∈ A, popb b x) (hC : ∀ x r, C = x :: r → ¬ popb b x) (h : EST I T s base M p (A ++ C) O) (hf : FE c base I I0) (hsg : sgT T s p = b)
    (h1 : ∀ I' : pm_I, EST I' T s base M (p + 1) (b :: C) (O ++ A.map mkO) → FE c base I' I0 → LW X d L K Q c 1 I') : LW X d L K Q c 0 I := by
  intro o ho
  obtain ⟨hr, hp, hl⟩ := id h
  obtain ⟨r1, r2, r3, r4, r5⟩ := id hr
  have hps : p < s := sg_lt hsg (by rcases hb with rfl | rfl <;> decide)
  rw [List.length_append] at hl
  have z2 : ∀ (J : pm_I) (u v : Nat → Int32), pm_up (pm_up J 122 u) 122 v = pm_up J 122 v := fun J u v => by
    funext a
    by_cases ha : a = 122
    · subst ha; rw [pm_up_eq, pm_up_eq]
    · rw [pm_up_ne ha, pm_up_ne ha, pm_up_ne ha]
  have at122 : pm_wp X (d + 4) 145 122 [(0, .ref 122), (1, .int (nI c)), (2, .int 0), (3, .int b)] [] 0 0 SH I L (RR K) Q := by
    refine pm_run_wp (n := 90) (stops := [22]) ?_
    simp only [st_iload_n, st_iload, st_lload_n, st_aload_n, st_aload, st_istore_n, st_istore, st_astore_n, st_astore, st_iconst, st_bipush, st_sipush, st_lconst, st_ldc, st_ldc_w, st_ldc2_w, st_getfield, st_putfieldI, st_putfieldR, st_getstatic, st_iaload, st_iastore, st_baload, st_bastore, st_laload, st_lastore, st_aaload, st_aastore, st_arraylength, st_iadd, st_isub, st_imul, st_iand, st_ior, st_ixor, st_ishl, st_ishr, st_idiv, st_irem, st_ineg, st_land, st_lor, st_lshl, st_i2l, st_l2i, st_i2b, st_i2s, st_i2c, st_lcmp, st_iinc, st_dupI, st_dupR, st_dup2, st_pop, st_goto, st_if_eq, st_icmp_eq, st_if_ne, st_icmp_ne, st_if_lt, st_icmp_lt, st_if_ge, st_icmp_ge, st_if_gt, st_icmp_gt, st_if_le, st_icmp_le, st_tsw, st_lsw, st_newarray, st_anewarray, st_new, st_invokevirtual, st_invokespecial, oin_ref, st_static, st_max, st_min, st_abs, st_copyi, st_copyl, st_ireturn, st_lreturn, st_areturn, st_return, rn_succ, inl_nil, inl_cons, rno_some, oi_some, ol_some, or_some, lk_cons, ins_nil, ins_cons, rm_nil, rm_int, rm_ref, rm_long, pop_0, pop_1, pop_2, pop_3, pop_4, pop_5, pop_6, la_nil, la_int, la_ref, la_long, cat_nil, cat_int, cat_ref, cat_long, call_succ, cont_some, cont_none, rcv_0, rcv_1, rcv_2, rcv_3, rcv_4, rcv_5, rcv_6, rcv_7, rcv_8, rcv_s, rf_some, ret_0, ret_10, ret_11, ret_ite, ite_0, sw_nil, sw_cons, ln_some, isk_some, al_some, ↓reduceIte, Nat.reduceAdd, Nat.reduceEqDiff, Nat.reduceLeDiff, Nat.reduceLT, Int32.reduceLT, Int32.reduceLE, Int32.reduceToNatClampNeg, Int32.reduceOfNat, Int32.reduceAdd, Int32.reduceSub, Int.reduceEq, Int.reduceNeg, Int.reduceLT, Int32.reduceOfInt, Int64.reduceOfInt, Bool.false_eq_true, true_and, and_true, eq_self, not_true_eq_false, not_false_eq_true, false_imp_iff, true_imp_iff, forall_const, or_true, true_or, ne_eq, Nat.zero_add, Nat.add_zero, Nat.le_refl, reduceCtorEq, Ft145, shF]
    refine m_settle (c := c) hC A O I _ hp hA (by omega) (by rw [List.length_append]; omega) (fun I1 a1 a2 a3 a4 => ?_)
    have hr1 : MD I1 T s p := md_fr (a3 12 (by omega) (by omega)) (a3 13 (by omega) (by omega)) (a2.1 129 (by omega) (by omega) (by omega) (by omega)) hr
    obtain ⟨t1, t2, t3, t4, t5⟩ := id hr1
    obtain ⟨p1, p2, p3, p4, p5⟩ := id a1
    have hv : vp_in (nI C.length) 101 := vi (by omega) (by omega)
    have hc : (nI C.length).toNatClampNeg = C.length := nI_clamp (by omega)
    have e36 : ∀ u : Nat → Int32, pm_up I1 136 u 122 = I1 122 := fun u => pm_up_ne (by omega)
    have est1 : EST I1 T s base M p C (O ++ A.map mkO) := ⟨hr1, a1, by rw [List.length_append, List.length_map]; omega⟩
    have e1 := est_push (b := b) (o' := nI (opn C)) est1 hps (by
      congr 1
      show _ = (if b = 33 ∨ b = 40 then 1 else 0) + opn C
      rw [if_neg (by rcases hb with rfl | rfl <;> decide)]
      omega)
    have e25 : pm_up (I1 122) 25 (nI (opn C)) = I1 122 := by
      funext k
      by_cases hk : k = 25
      · subst hk; rw [pm_up_eq, p5]
      · rw [pm_up_ne hk]
    rw [e25] at e1
    simp only [st_iload_n, st_iload, st_lload_n, st_aload_n, st_aload, st_istore_n, st_istore, st_astore_n, st_astore, st_iconst, st_bipush, st_sipush, st_lconst, st_ldc, st_ldc_w, st_ldc2_w, st_getfield, st_putfieldI, st_putfieldR, st_getstatic, st_iaload, st_iastore, st_baload, st_bastore, st_laload, st_lastore, st_aaload, st_aastore, st_arraylength, st_iadd, st_isub, st_imul, st_iand, st_ior, st_ixor, st_ishl, st_ishr, st_idiv, st_irem, st_ineg, st_land, st_lor, st_lshl, st_i2l, st_l2i, st_i2b, st_i2s, st_i2c, st_lcmp, st_iinc, st_dupI, st_dupR, st_dup2, st_pop, st_goto, st_if_eq, st_icmp_eq, st_if_ne, st_icmp_ne, st_if_lt, st_icmp_lt, st_if_ge, st_icmp_ge, st_if_gt, st_icmp_gt, st_if_le, st_icmp_le, st_tsw, st_lsw, st_newarray, st_anewarray, st_new, st_invokevirtual, st_invokespecial, oin_ref, st_static, st_max, st_min, st_abs, st_copyi, st_copyl, st_ireturn, st_lreturn, st_areturn, st_return, rn_succ, inl_nil, inl_cons, rno_some, oi_some, ol_some, or_some, lk_cons, ins_nil, ins_cons, rm_nil, rm_int, rm_ref, rm_long, pop_0, pop_1, pop_2, pop_3, pop_4, pop_5, pop_6, la_nil, la_int, la_ref, la_long, cat_nil, cat_int, cat_ref, cat_long, call_succ, cont_some, cont_none, rcv_0, rcv_1, rcv_2, rcv_3, rcv_4, rcv_5, rcv_6, rcv_7, rcv_8, rcv_s, rf_some, ret_0, ret_10, ret_11, ret_ite, ite_0, sw_nil, sw_cons, ln_some, isk_some, al_some, ↓reduceIte, Nat.reduceAdd, Nat.reduceEqDiff, Nat.reduceLeDiff, Nat.reduceLT, Int32.reduceLT, Int32.reduceLE, Int32.reduceToNatClampNeg, Int32.reduceOfNat, Int32.reduceAdd, Int32.reduceSub, Int.reduceEq, Int.reduceNeg, Int.reduceLT, Int32.reduceOfInt, Int64.reduceOfInt, Bool.false_eq_true, true_and, and_true, eq_self, not_true_eq_false, not_false_eq_true, false_imp_iff, true_imp_iff, forall_const, or_true, true_or, ne_eq, Nat.zero_add, Nat.add_zero, Nat.le_refl, reduceCtorEq, Ft145, shF, rrF K, p1, t2, hv, hc, nI_1, pm_up_eq, z2, e36, pm_upa]
    have f1 : FE c base _ I0 := fe_tr (fe_push (W := C) (b := b) (u := pm_up (pm_up (I1 122) 24 (nI (C.length + 1))) 13 (nI (p + 1))) (fun j a1 a2 => by rw [pm_up_ne (by omega), pm_up_ne (by omega)])) (fe_tr a2 hf)
    exact h1 _ e1 f1 [(3, .int b)] (Or.inr ⟨_, rfl⟩)
  rcases ho with rfl | ⟨x0, rfl⟩
  all_goals
    simp only [List.append_nil, List.cons_append, List.nil_append]
    refine pm_gos (n := 60) (stops := [22, 122]) ?_
    simp only [st_iload_n, st_iload, st_lload_n, st_aload_n, st_aload, st_istore_n, st_istore, st_astore_n, st_astore, st_iconst, st_bipush, st_sipush, st_lconst, st_ldc, st_ldc_w, st_ldc2_w, st_getfield, st_putfieldI, st_putfieldR, st_getstatic, st_iaload, st_iastore, st_baload, st_bastore, st_laload, st_lastore, st_aaload, st_aastore, st_arraylength, st_iadd, st_isub, st_imul, st_iand, st_ior, st_ixor, st_ishl, st_ishr, st_idiv, st_irem, st_ineg, st_land, st_lor, st_lshl, st_i2l, st_l2i, st_i2b, st_i2s, st_i2c, st_lcmp, st_iinc, st_dupI, st_dupR, st_dup2, st_pop, st_goto, st_if_eq, st_icmp_eq, st_if_ne, st_icmp_ne, st_if_lt, st_icmp_lt, st_if_ge, st_icmp_ge, st_if_gt, st_icmp_gt, st_if_le, st_icmp_le, st_tsw, st_lsw, st_newarray, st_anewarray, st_new, st_invokevirtual, st_invokespecial, oin_ref, st_static, st_max, st_min, st_abs, st_copyi, st_copyl, st_ireturn, st_lreturn, st_areturn, st_return, rn_succ, inl_nil, inl_cons, rno_some, oi_some, ol_some, or_some, lk_cons, ins_nil, ins_cons, rm_nil, rm_int, rm_ref, rm_long, pop_0, pop_1, pop_2, pop_3, pop_4, pop_5, pop_6, la_nil, la_int, la_ref, la_long, cat_nil, cat_int, cat_ref, cat_long, call_succ, cont_some, cont_none, rcv_0, rcv_1, rcv_2, rcv_3, rcv_4, rcv_5, rcv_6, rcv_7, rcv_8, rcv_s, rf_some, ret_0, ret_10, ret_11, ret_ite, ite_0, sw_nil, sw_cons, ln_some, isk_some, al_some, ↓reduceIte, Nat.reduceAdd, Nat.reduceEqDiff, Nat.reduceLeDiff, Nat.reduceLT, Int32.reduceLT, Int32.reduceLE, Int32.reduceToNatClampNeg, Int32.reduceOfNat, Int32.reduceAdd, Int32.reduceSub, Int.reduceEq, Int.reduceNeg, Int.reduceLT, Int32.reduceOfInt, Int64.reduceOfInt, Bool.false_eq_true, true_and, and_true, eq_self, not_true_eq_false, not_false_eq_true, false_imp_iff, true_imp_iff, forall_const, or_true, true_or, ne_eq, Nat.zero_add, Nat.add_zero, Nat.le_refl, reduceCtorEq, Ft145, shF]
    refine m_next hr ?_
    rw [hsg]
    rcases hb with rfl | rfl
    · simp only [st_iload_n, st_iload, st_lload_n, st_aload_n, st_aload, st_istore_n, st_istore, st_astore_n, st_astore, st_iconst, st_bipush, st_sipush, st_lconst, st_ldc, st_ldc_w, st_ldc2_w, st_getfield, st_putfieldI, st_putfieldR, st_getstatic, st_iaload, st_iastore, st_baload, st_bastore, st_laload, st_lastore, st_aaload, st_aastore, st_arraylength, st_iadd, st_isub, st_imul, st_iand, st_ior, st_ixor, st_ishl, st_ishr, st_idiv, st_irem, st_ineg, st_land, st_lor, st_lshl, st_i2l, st_l2i, st_i2b, st_i2s, st_i2c, st_lcmp, st_iinc, st_dupI, st_dupR, st_dup2, st_pop, st_goto, st_if_eq, st_icmp_eq, st_if_ne, st_icmp_ne, st_if_lt, st_icmp_lt, st_if_ge, st_icmp_ge, st_if_gt, st_icmp_gt, st_if_le, st_icmp_le, st_tsw, st_lsw, st_newarray, st_anewarray, st_new, st_invokevirtual, st_invokespecial, oin_ref, st_static, st_max, st_min, st_abs, st_copyi, st_copyl, st_ireturn, st_lreturn, st_areturn, st_return, rn_succ, inl_nil, inl_cons, rno_some, oi_some, ol_some, or_some, lk_cons, ins_nil, ins_cons, rm_nil, rm_int, rm_ref, rm_long, pop_0, pop_1, pop_2, pop_3, pop_4, pop_5, pop_6, la_nil, la_int, la_ref, la_long, cat_nil, cat_int, cat_ref, cat_long, call_succ, cont_some, cont_none, rcv_0, rcv_1, rcv_2, rcv_3, rcv_4, rcv_5, rcv_6, rcv_7, rcv_8, rcv_s, rf_some, ret_0, ret_10, ret_11, ret_ite, ite_0, sw_nil, sw_cons, ln_some, isk_some, al_some, ↓reduceIte, Nat.reduceAdd, Nat.reduceEqDiff, Nat.reduceLeDiff, Nat.reduceLT, Int32.reduceLT, Int32.reduceLE, Int32.reduceToNatClampNeg, Int32.reduceOfNat, Int32.reduceAdd, Int32.reduceSub, Int.reduceEq, Int.reduceNeg, Int.reduceLT, Int32.reduceOfInt, Int64.reduceOfInt, Bool.false_eq_true, true_and, and_true, eq_self, not_true_eq_false, not_false_eq_true, false_imp_iff, true_imp_iff, forall_const, or_true, true_or, ne_eq, Nat.zero_add, Nat.add_zero, Nat.le_refl, reduceCtorEq, Ft145]
      exact at122
    · simp only [st_iload_n, st_iload, st_lload_n, st_aload_n, st_aload, st_istore_n, st_istore, st_astore_n, st_astore, st_iconst, st_bipush, st_sipush, st_lconst, st_ldc, st_ldc_w, st_ldc2_w, st_getfield, st_putfieldI, st_putfieldR, st_getstatic, st_iaload, st_iastore, st_baload, st_bastore, st_laload, st_lastore, st_aaload, st_aastore, st_arraylength, st_iadd, st_isub, st_imul, st_iand, st_ior, st_ixor, st_ishl, st_ishr, st_idiv, st_irem, st_ineg, st_land, st_lor, st_lshl, st_i2l, st_l2i, st_i2b, st_i2s, st_i2c, st_lcmp, st_iinc, st_dupI, st_dupR, st_dup2, st_pop, st_goto, st_if_eq, st_icmp_eq, st_if_ne, st_icmp_ne, st_if_lt, st_icmp_lt, st_if_ge, st_icmp_ge, st_if_gt, st_icmp_gt, st_if_le, st_icmp_le, st_tsw, st_lsw, st_newarray, st_anewarray, st_new, st_invokevirtual, st_invokespecial, oin_ref, st_static, st_max, st_min, st_abs, st_copyi, st_copyl, st_ireturn, st_lreturn, st_areturn, st_return, rn_succ, inl_nil, inl_cons, rno_some, oi_some, ol_some, or_some, lk_cons, ins_nil, ins_cons, rm_nil, rm_int, rm_ref, rm_long, pop_0, pop_1, pop_2, pop_3, pop_4, pop_5, pop_6, la_nil, la_int, la_ref, la_long, cat_nil, cat_int, cat_ref, cat_long, call_succ, cont_some, cont_none, rcv_0, rcv_1, rcv_2, rcv_3, rcv_4, rcv_5, rcv_6, rcv_7, rcv_8, rcv_s, rf_some, ret_0, ret_10, ret_11, ret_ite, ite_0, sw_nil, sw_cons, ln_some, isk_some, al_some, ↓reduceIte, Nat.reduceAdd, Nat.reduceEqDiff, Nat.reduceLeDiff, Nat.reduceLT, Int32.reduceLT, Int32.reduceLE, Int32.reduceToNatClampNeg, Int32.reduceOfNat, Int32.reduceAdd, Int32.reduceSub, Int.reduceEq, Int.reduceNeg, Int.reduceLT, Int32.reduceOfInt, Int64.reduceOfInt, Bool.false_eq_true, true_and, and_true, eq_self, not_true_eq_false, not_false_eq_true, false_imp_iff, true_imp_iff, forall_const, or_true, true_or, ne_eq, Nat.zero_add, Nat.add_zero, Nat.le_refl, reduceCtorEq, Ft145, i12438]
      exact at122
theorem popA {b : Int32} {A : List Int32} (h : A = [] ∨ A = [38]) : ∀ x ∈ A, popb b x := by
  intro x hx
  rcases h with rfl | rfl
  · cases hx
  · obtain rfl := List.mem_singleton.mp hx
    exact Or.inl rfl
/-- AND: behind a part -/
theorem m_andL {m : Nat} (hbb : base = bb + M ∧ bb ≤ 500) (hPA : PA X d L K Q T s base c M m I0) {C : List Int32} (hC : ∀ b r, C = b :: r → b = 40 ∨ b = 124) (hm : m + opn C = 4) (O0 : List mk) : ∀ (f p : Nat) (acc : List mk) (A : List Int32) (O : List mk) (I : pm_I), (A = [] ∨ A = [38]) → EST I T s base M p (A ++ C) O → O ++ A.map mkO = O0 ++ acc → 100 ≤ f + acc.length → FE c base I I0 →
    (∀ p', jnL T s (ptF T s m) 38 f p acc = (p', none) → NO L K Q T s c base I0 p') →
    (∀ p' acc', jnL T s (ptF T s m) 38 f p acc = (p', some acc') → ∀ (I' : pm_I) (A' : List Int32) (O' : List mk), (A' = [] ∨ A' = [38]) → EST I' T s base M p' (A' ++ C) O' → O' ++ A'.map mkO = O0 ++ acc' → ¬ sgT T s p' = 38 → FE c base I' I0 → LW X d L K Q c 0 I') → LW X d L K Q c 0 I := by
  have hC38 : ∀ x r, C = x :: r → ¬ popb 38 x := fun x r e z => by
    rcases hC x r e with rfl | rfl
    · rcases z with z | ⟨z, -⟩ <;> exact absurd z (by decide)
    · rcases z with z | ⟨-, z⟩
      · exact absurd z (by decide)
      · exact z rfl
  intro f
  induction f with
  | zero =>
    intro p acc A O I hA h he hl hf h0 h1
    have hp : 100 ≤ p := by
      have := congrArg List.length he
      rw [List.length_append, List.length_append, List.length_map] at this
      have h3 := h.2.2
      rw [List.length_append] at h3
      omega
    have hs := h.1.2.2.1
    refine h1 p acc rfl I A O hA h he ?_ hf
    unfold sgT
    rw [if_neg (by omega)]
    decide
  | succ f ih =>
    intro p acc A O I hA h he hl hf h0 h1
    unfold jnL at h0 h1
    by_cases hsg : sgT T s p = 38
    · simp only [if_pos hsg] at h0 h1
      refine m_oper hbb (Or.inl rfl) (popA hA) hC38 h hf hsg (fun I1 e1 f1 => ?_)
      rw [he] at e1
      have hop : opn (38 :: C) = opn C := by
        show (if (38 : Int32) = 33 ∨ (38 : Int32) = 40 then 1 else 0) + opn C = _
        rw [if_neg (by decide)]; omega
      refine hPA 0 (p + 1) (38 :: C) (O0 ++ acc) I1 (fun b r e => by cases e; decide) (by omega) e1 f1 (fun p' e => ?_) (fun p' ms e I2 e2 f2 => ?_)
      · rw [e] at h0
        exact h0 p' rfl
      · rw [e] at h0 h1
        dsimp only at h0 h1
        have e2' : EST I2 T s base M p' ([38] ++ C) (O0 ++ acc ++ ms) := by
          rw [show bgm 0 = [] from rfl, List.append_nil] at e2
          exact e2
        refine ih p' (acc ++ ms ++ [(38, 0, 0)]) [38] (O0 ++ acc ++ ms) I2 (Or.inr rfl) e2' ?_ ?_ f2 h0 h1
        · show O0 ++ acc ++ ms ++ [(38, 0, 0)] = _
          simp only [List.append_assoc]
        · rw [List.length_append, List.length_append, List.length_singleton]
          omega
    · simp only [if_neg hsg] at h1
      exact h1 p acc rfl I A O hA h he hsg hf
/-- OR: behind a row of parts -/
theorem m_orL {m : Nat} (hbb : base = bb + M ∧ bb ≤ 500) (hPA : PA X d L K Q T s base c M m I0) {C : List Int32} (hC : ∀ b r, C = b :: r → b = 40) (hm : m + opn C = 4) (O0 : List mk) : ∀ (f p : Nat) (acc : List mk) (A B : List Int32) (O : List mk) (I : pm_I), (A = [] ∨ A = [38]) → (B = [] ∨ B = [124]) → EST I T s base M p (A ++ (B ++ C)) O → O ++ (A ++ B).map mkO = O0 ++ acc → 100 ≤ f + acc.length → ¬ sgT T s p = 38 → FE c base I I0 →
    (∀ p', jnL T s (jnF T s (ptF T s m) 38) 124 f p acc = (p', none) → NO L K Q T s c base I0 p') →
    (∀ p' acc', jnL T s (jnF T s (ptF T s m) 38) 124 f p acc = (p', some acc') → ∀ (I' : pm_I) (A' : List Int32) (O' : List mk), (∀ x ∈ A', popb 124 x ∨ x = 124) → EST I' T s base M p' (A' ++ C) O' → O' ++ A'.map mkO = O0 ++ acc' → ¬ sgT T s p' = 38 → ¬ sgT T s p' = 124 → FE c base I' I0 → LW X d L K Q c 0 I') → LW X d L K Q c 0 I := by
  have n12 : ¬ (124 : Int32) = 38 := by decide
  have popAB : ∀ {A B : List Int32}, (A = [] ∨ A = [38]) → (B = [] ∨ B = [124]) → ∀ x ∈ A ++ B, popb 124 x := by
    intro A B hA hB x hx
    rcases List.mem_append.mp hx with z | z
    · exact popA hA x z
    · rcases hB with rfl | rfl
      · cases z
      · obtain rfl := List.mem_singleton.mp z
        exact Or.inr ⟨rfl, n12⟩
  have hC4 : ∀ x r, C = x :: r → ¬ popb 124 x := fun x r e z => by
    have := hC x r e
    subst this
    rcases z with z | ⟨z, -⟩ <;> exact absurd z (by decide)
  intro f
  induction f with
  | zero =>
    intro p acc A B O I hA hB h he hl h38 hf h0 h1
    have hp : 100 ≤ p := by
      have := congrArg List.length he
      rw [List.length_append, List.length_append, List.length_map, List.length_append] at this
      have h3 := h.2.2
      rw [List.length_append, List.length_append] at h3
      omega
    have hs := h.1.2.2.1
    have hsg : sgT T s p = -1 := by
      unfold sgT
      rw [if_neg (by omega)]
    refine h1 p acc rfl I (A ++ B) O (fun x hx => Or.inl (popAB hA hB x hx)) (by rw [List.append_assoc]; exact h) he h38 ?_ hf
    rw [hsg]
    decide
  | succ f ih =>
    intro p acc A B O I hA hB h he hl h38 hf h0 h1
    unfold jnL at h0 h1
    by_cases hsg : sgT T s p = 124
    · simp only [if_pos hsg] at h0 h1
      rw [← List.append_assoc] at h
      refine m_oper hbb (Or.inr rfl) (popAB hA hB) hC4 h hf hsg (fun I1 e1 f1 => ?_)
      rw [he] at e1
      have hop : opn (124 :: C) = opn C := by
        show (if (124 : Int32) = 33 ∨ (124 : Int32) = 40 then 1 else 0) + opn C = _
        rw [if_neg (by decide)]; omega
      unfold jnF at h0 h1
      refine hPA 0 (p + 1) (124 :: C) (O0 ++ acc) I1 (fun b r e => by cases e; decide) (by omega) e1 f1 (fun p' e => ?_) (fun p1 ms e I2 e2 f2 => ?_)
      · rw [e] at h0
        exact h0 p' rfl
      · rw [e] at h0 h1
        dsimp only at h0 h1
        have hne := (pt_ok m _ _ _ e).1
        have hml : 1 ≤ ms.length := by cases ms with | nil => exact absurd rfl hne | cons a r => simp
        have e2' : EST I2 T s base M p1 ([] ++ (124 :: C)) (O0 ++ acc ++ ms) := by
          rw [show bgm 0 = [] from rfl, List.append_nil] at e2
          exact e2
        refine m_andL hbb hPA (C := 124 :: C) (fun b r e => by cases e; exact Or.inr rfl) (by omega) (O0 ++ acc) 99 p1 ms [] (O0 ++ acc ++ ms) I2 (Or.inl rfl) e2' (by simp) (by omega) f2 (fun p' e3 => ?_) (fun p2 ms2 e3 I3 A3 O3 hA3 e4 he3 h38' f3 => ?_)
        · rw [e3] at h0
          exact h0 p' rfl
        · rw [e3] at h0 h1
          dsimp only at h0 h1
          refine ih p2 (acc ++ ms2 ++ [(124, 0, 0)]) A3 [124] O3 I3 hA3 (Or.inr rfl) e4 ?_ ?_ h38' f3 h0 h1
          · rw [List.map_append, ← List.append_assoc, he3]
            show O0 ++ acc ++ ms2 ++ [(124, 0, 0)] = _
            simp only [List.append_assoc]
          · rw [List.length_append, List.length_append, List.length_singleton]
            omega
    · simp only [if_neg hsg] at h1
      exact h1 p acc rfl I (A ++ B) O (fun x hx => Or.inl (popAB hA hB x hx)) (by rw [List.append_assoc]; exact h) he h38 hsg hf
/-- a whole condition, where a part may begin -/
theorem m_exprL {m : Nat} (hbb : base = bb + M ∧ bb ≤ 500) (hPA : PA X d L K Q T s base c M m I0) {C : List Int32} (hC : ∀ b r, C = b :: r → b = 40) (hm : m + opn C = 4) {O0 : List mk} {p : Nat} {I : pm_I} (h : EST I T s base M p C O0) (hf : FE c base I I0)
    (h0 : ∀ p', jnF T s (jnF T s (ptF T s m) 38) 124 p = (p', none) → NO L K Q T s c base I0 p')
    (h1 : ∀ p' acc', jnF T s (jnF T s (ptF T s m) 38) 124 p = (p', some acc') → ∀ (I' : pm_I) (A' : List Int32) (O' : List mk), (∀ x ∈ A', popb 124 x ∨ x = 124) → EST I' T s base M p' (A' ++ C) O' → O' ++ A'.map mkO = O0 ++ acc' → ¬ sgT T s p' = 38 → ¬ sgT T s p' = 124 → FE c base I' I0 → LW X d L K Q c 0 I') : LW X d L K Q c 1 I := by
  have hz0 : jnF T s (jnF T s (ptF T s m) 38) 124 p = (match jnF T s (ptF T s m) 38 p with
    | (p', none) => (p', none)
    | (p', some ms) => jnL T s (jnF T s (ptF T s m) 38) 124 99 p' ms) := rfl
  rw [hz0] at h0 h1
  refine hPA 0 p C O0 I (fun b r e => by have := hC b r e; subst this; decide) (by omega) h hf (fun p' e => ?_) (fun p1 ms e I2 e2 f2 => ?_)
  · have hz : jnF T s (ptF T s m) 38 p = (p', none) := by unfold jnF; rw [e]
    rw [hz] at h0
    exact h0 p' rfl
  · have hz : jnF T s (ptF T s m) 38 p = jnL T s (ptF T s m) 38 99 p1 ms := by unfold jnF; rw [e]
    rw [hz] at h0 h1
    have hne := (pt_ok m _ _ _ e).1
    have hml : 1 ≤ ms.length := by cases ms with | nil => exact absurd rfl hne | cons a r => simp
    have e2' : EST I2 T s base M p1 ([] ++ C) (O0 ++ ms) := by
      rw [show bgm 0 = [] from rfl, List.append_nil] at e2
      exact e2
    refine m_andL hbb hPA (fun b r e => Or.inl (hC b r e)) hm O0 99 p1 ms [] (O0 ++ ms) I2 (Or.inl rfl) e2' (by simp) (by omega) f2 (fun p' e3 => ?_) (fun p2 ms2 e3 I3 A3 O3 hA3 e4 he3 h38' f3 => ?_)
    · rw [e3] at h0
      exact h0 p' rfl
    · rw [e3] at h0 h1
      dsimp only at h0 h1
      have hz2 : jnF T s (ptF T s m) 38 p = (p2, some ms2) := by rw [hz, e3]
      have hne2 := (jnF_ok (Or.inl rfl) (pt_ok m) hz2).1
      have hml2 : 1 ≤ ms2.length := by cases ms2 with | nil => exact absurd rfl hne2 | cons a r => simp
      exact m_orL hbb hPA hC hm O0 99 p2 ms2 A3 [] O3 I3 hA3 (Or.inl rfl) e4 (by rw [List.append_nil]; exact he3) (by omega) h38' f3 h0 h1
end MEX
