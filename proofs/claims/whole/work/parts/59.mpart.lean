/-! THE MODEL reads a condition, from its first sign to its last -/
section MPT
variable {X : pm_X} {d : Nat} {L : pm_L} {Q : pm_Q} {K : Nat → Nat} {T : Nat → Int32} {s base c bb M : Nat} {I0 : pm_I}
/-- behind a condition: what is settled, where it ends -/
theorem m_done {I : pm_I} {p : Nat} {A C : List Int32} {O O1 : List mk} (hc60 : c < 60) (hbb : base = bb + M ∧ bb ≤ 500) (hA : ∀ x ∈ A, popb 124 x ∨ x = 124) (hC : ∀ b r, C = b :: r → b = 40) (h : EST I T s base M p (A ++ C) O) (he : O ++ A.map mkO = O1) (n38 : ¬ sgT T s p = 38) (n124 : ¬ sgT T s p = 124) (hf : FE c base I I0) (o : pm_l) (ho : o = [] ∨ ∃ x, o = [(3, .int x)])
    (h1 : ∀ I' : pm_I, EST I' T s base M p C O1 → FE c base I' I0 → I' 134 c = nI (base + O1.length) → pm_wp X (d + 4) 145 178 [(0, .ref 122), (1, .int (nI c)), (2, .int 0), (3, .int (sgT T s p))] [] 0 0 SH I' L (RR K) Q) :
    pm_wp X (d + 4) 145 22 ([(0, .ref 122), (1, .int (nI c)), (2, .int 0)] ++ o) [] 0 0 SH I L (RR K) Q := by
  obtain ⟨hr, hp, hl⟩ := id h
  rw [List.length_append] at hl
  obtain ⟨r1, r2, r3, r4, r5⟩ := id hr
  have hv : vp_in (nI c) 60 := vi (by omega) (by omega)
  have hcc : (nI c).toNatClampNeg = c := nI_clamp (by omega)
  have hC4 : ∀ x r, C = x :: r → ¬ popb 124 x := fun x r e z => by
    have := hC x r e
    subst this
    rcases z with z | ⟨z, -⟩ <;> exact absurd z (by decide)
  have popA4 : ∀ x ∈ A, popb 124 x := fun x hx => (hA x hx).elim id (fun z => Or.inr ⟨z, by decide⟩)
  have at162 : pm_wp X (d + 4) 145 162 [(0, .ref 122), (1, .int (nI c)), (2, .int 0), (3, .int (sgT T s p))] [] 0 0 SH I L (RR K) Q := by
    refine pm_run_wp (n := 60) (stops := [178]) ?_
    simp only [st_iload_n, st_iload, st_lload_n, st_aload_n, st_aload, st_istore_n, st_istore, st_astore_n, st_astore, st_iconst, st_bipush, st_sipush, st_lconst, st_ldc, st_ldc_w, st_ldc2_w, st_getfield, st_putfieldI, st_putfieldR, st_getstatic, st_iaload, st_iastore, st_baload, st_bastore, st_laload, st_lastore, st_aaload, st_aastore, st_arraylength, st_iadd, st_isub, st_imul, st_iand, st_ior, st_ixor, st_ishl, st_ishr, st_idiv, st_irem, st_ineg, st_land, st_lor, st_lshl, st_i2l, st_l2i, st_i2b, st_i2s, st_i2c, st_lcmp, st_iinc, st_dupI, st_dupR, st_dup2, st_pop, st_goto, st_if_eq, st_icmp_eq, st_if_ne, st_icmp_ne, st_if_lt, st_icmp_lt, st_if_ge, st_icmp_ge, st_if_gt, st_icmp_gt, st_if_le, st_icmp_le, st_tsw, st_lsw, st_newarray, st_anewarray, st_new, st_invokevirtual, st_invokespecial, oin_ref, st_static, st_max, st_min, st_abs, st_copyi, st_copyl, st_ireturn, st_lreturn, st_areturn, st_return, rn_succ, inl_nil, inl_cons, rno_some, oi_some, ol_some, or_some, lk_cons, ins_nil, ins_cons, rm_nil, rm_int, rm_ref, rm_long, pop_0, pop_1, pop_2, pop_3, pop_4, pop_5, pop_6, la_nil, la_int, la_ref, la_long, cat_nil, cat_int, cat_ref, cat_long, call_succ, cont_some, cont_none, rcv_0, rcv_1, rcv_2, rcv_3, rcv_4, rcv_5, rcv_6, rcv_7, rcv_8, rcv_s, rf_some, ret_0, ret_10, ret_11, ret_ite, ite_0, sw_nil, sw_cons, ln_some, isk_some, al_some, ↓reduceIte, Nat.reduceAdd, Nat.reduceEqDiff, Nat.reduceLeDiff, Nat.reduceLT, Int32.reduceLT, Int32.reduceLE, Int32.reduceToNatClampNeg, Int32.reduceOfNat, Int32.reduceAdd, Int32.reduceSub, Int.reduceEq, Int.reduceNeg, Int.reduceLT, Int32.reduceOfInt, Int64.reduceOfInt, Bool.false_eq_true, true_and, and_true, eq_self, not_true_eq_false, not_false_eq_true, false_imp_iff, true_imp_iff, forall_const, or_true, true_or, ne_eq, Nat.zero_add, Nat.add_zero, Nat.le_refl, reduceCtorEq, Ft145, shF]
    refine m_settle (c := c) hC4 A O I _ hp popA4 (by omega) (by rw [List.length_append]; omega) (fun I1 a1 a2 a3 a4 => ?_)
    rw [he] at a1
    have hr1 : MD I1 T s p := md_fr (a3 12 (by omega) (by omega)) (a3 13 (by omega) (by omega)) (a2.1 129 (by omega) (by omega) (by omega) (by omega)) hr
    obtain ⟨p1, p2, p3, p4, p5⟩ := id a1
    have hlen : O1.length = O.length + A.length := by rw [← he, List.length_append, List.length_map]
    simp only [st_iload_n, st_iload, st_lload_n, st_aload_n, st_aload, st_istore_n, st_istore, st_astore_n, st_astore, st_iconst, st_bipush, st_sipush, st_lconst, st_ldc, st_ldc_w, st_ldc2_w, st_getfield, st_putfieldI, st_putfieldR, st_getstatic, st_iaload, st_iastore, st_baload, st_bastore, st_laload, st_lastore, st_aaload, st_aastore, st_arraylength, st_iadd, st_isub, st_imul, st_iand, st_ior, st_ixor, st_ishl, st_ishr, st_idiv, st_irem, st_ineg, st_land, st_lor, st_lshl, st_i2l, st_l2i, st_i2b, st_i2s, st_i2c, st_lcmp, st_iinc, st_dupI, st_dupR, st_dup2, st_pop, st_goto, st_if_eq, st_icmp_eq, st_if_ne, st_icmp_ne, st_if_lt, st_icmp_lt, st_if_ge, st_icmp_ge, st_if_gt, st_icmp_gt, st_if_le, st_icmp_le, st_tsw, st_lsw, st_newarray, st_anewarray, st_new, st_invokevirtual, st_invokespecial, oin_ref, st_static, st_max, st_min, st_abs, st_copyi, st_copyl, st_ireturn, st_lreturn, st_areturn, st_return, rn_succ, inl_nil, inl_cons, rno_some, oi_some, ol_some, or_some, lk_cons, ins_nil, ins_cons, rm_nil, rm_int, rm_ref, rm_long, pop_0, pop_1, pop_2, pop_3, pop_4, pop_5, pop_6, la_nil, la_int, la_ref, la_long, cat_nil, cat_int, cat_ref, cat_long, call_succ, cont_some, cont_none, rcv_0, rcv_1, rcv_2, rcv_3, rcv_4, rcv_5, rcv_6, rcv_7, rcv_8, rcv_s, rf_some, ret_0, ret_10, ret_11, ret_ite, ite_0, sw_nil, sw_cons, ln_some, isk_some, al_some, ↓reduceIte, Nat.reduceAdd, Nat.reduceEqDiff, Nat.reduceLeDiff, Nat.reduceLT, Int32.reduceLT, Int32.reduceLE, Int32.reduceToNatClampNeg, Int32.reduceOfNat, Int32.reduceAdd, Int32.reduceSub, Int.reduceEq, Int.reduceNeg, Int.reduceLT, Int32.reduceOfInt, Int64.reduceOfInt, Bool.false_eq_true, true_and, and_true, eq_self, not_true_eq_false, not_false_eq_true, false_imp_iff, true_imp_iff, forall_const, or_true, true_or, ne_eq, Nat.zero_add, Nat.add_zero, Nat.le_refl, reduceCtorEq, Ft145, shF, rrF K, hv, hcc, p3]
    refine h1 _ ⟨md_fr (by rw [pm_up_ne (by omega)]) (by rw [pm_up_ne (by omega)]) (pm_up_ne (by omega)) hr1, pq_fr (by rw [pm_up_ne (by omega)]) (pm_up_ne (by omega)) (by rw [pm_up_ne (by omega)]) (pm_up_ne (by omega)) (by rw [pm_up_ne (by omega)]) a1, by omega⟩ (fe_tr ⟨fun a b1 b2 b3 b4 => pm_up_ne b2, fun k hk => by rw [pm_up_ne (by omega)], fun k hk => by rw [pm_up_eq, pm_up_ne hk], fun k b1 b2 => by rw [pm_up_ne (by omega)]⟩ (fe_tr a2 hf)) ?_
    rw [pm_up_eq, pm_up_eq]
  rcases ho with rfl | ⟨x0, rfl⟩
  all_goals
    simp only [List.append_nil, List.cons_append, List.nil_append]
    refine pm_gos (n := 60) (stops := [22, 162]) ?_
    simp only [st_iload_n, st_iload, st_lload_n, st_aload_n, st_aload, st_istore_n, st_istore, st_astore_n, st_astore, st_iconst, st_bipush, st_sipush, st_lconst, st_ldc, st_ldc_w, st_ldc2_w, st_getfield, st_putfieldI, st_putfieldR, st_getstatic, st_iaload, st_iastore, st_baload, st_bastore, st_laload, st_lastore, st_aaload, st_aastore, st_arraylength, st_iadd, st_isub, st_imul, st_iand, st_ior, st_ixor, st_ishl, st_ishr, st_idiv, st_irem, st_ineg, st_land, st_lor, st_lshl, st_i2l, st_l2i, st_i2b, st_i2s, st_i2c, st_lcmp, st_iinc, st_dupI, st_dupR, st_dup2, st_pop, st_goto, st_if_eq, st_icmp_eq, st_if_ne, st_icmp_ne, st_if_lt, st_icmp_lt, st_if_ge, st_icmp_ge, st_if_gt, st_icmp_gt, st_if_le, st_icmp_le, st_tsw, st_lsw, st_newarray, st_anewarray, st_new, st_invokevirtual, st_invokespecial, oin_ref, st_static, st_max, st_min, st_abs, st_copyi, st_copyl, st_ireturn, st_lreturn, st_areturn, st_return, rn_succ, inl_nil, inl_cons, rno_some, oi_some, ol_some, or_some, lk_cons, ins_nil, ins_cons, rm_nil, rm_int, rm_ref, rm_long, pop_0, pop_1, pop_2, pop_3, pop_4, pop_5, pop_6, la_nil, la_int, la_ref, la_long, cat_nil, cat_int, cat_ref, cat_long, call_succ, cont_some, cont_none, rcv_0, rcv_1, rcv_2, rcv_3, rcv_4, rcv_5, rcv_6, rcv_7, rcv_8, rcv_s, rf_some, ret_0, ret_10, ret_11, ret_ite, ite_0, sw_nil, sw_cons, ln_some, isk_some, al_some, ↓reduceIte, Nat.reduceAdd, Nat.reduceEqDiff, Nat.reduceLeDiff, Nat.reduceLT, Int32.reduceLT, Int32.reduceLE, Int32.reduceToNatClampNeg, Int32.reduceOfNat, Int32.reduceAdd, Int32.reduceSub, Int.reduceEq, Int.reduceNeg, Int.reduceLT, Int32.reduceOfInt, Int64.reduceOfInt, Bool.false_eq_true, true_and, and_true, eq_self, not_true_eq_false, not_false_eq_true, false_imp_iff, true_imp_iff, forall_const, or_true, true_or, ne_eq, Nat.zero_add, Nat.add_zero, Nat.le_refl, reduceCtorEq, Ft145, shF]
    refine m_next hr ?_
    simp only [st_iload_n, st_iload, st_lload_n, st_aload_n, st_aload, st_istore_n, st_istore, st_astore_n, st_astore, st_iconst, st_bipush, st_sipush, st_lconst, st_ldc, st_ldc_w, st_ldc2_w, st_getfield, st_putfieldI, st_putfieldR, st_getstatic, st_iaload, st_iastore, st_baload, st_bastore, st_laload, st_lastore, st_aaload, st_aastore, st_arraylength, st_iadd, st_isub, st_imul, st_iand, st_ior, st_ixor, st_ishl, st_ishr, st_idiv, st_irem, st_ineg, st_land, st_lor, st_lshl, st_i2l, st_l2i, st_i2b, st_i2s, st_i2c, st_lcmp, st_iinc, st_dupI, st_dupR, st_dup2, st_pop, st_goto, st_if_eq, st_icmp_eq, st_if_ne, st_icmp_ne, st_if_lt, st_icmp_lt, st_if_ge, st_icmp_ge, st_if_gt, st_icmp_gt, st_if_le, st_icmp_le, st_tsw, st_lsw, st_newarray, st_anewarray, st_new, st_invokevirtual, st_invokespecial, oin_ref, st_static, st_max, st_min, st_abs, st_copyi, st_copyl, st_ireturn, st_lreturn, st_areturn, st_return, rn_succ, inl_nil, inl_cons, rno_some, oi_some, ol_some, or_some, lk_cons, ins_nil, ins_cons, rm_nil, rm_int, rm_ref, rm_long, pop_0, pop_1, pop_2, pop_3, pop_4, pop_5, pop_6, la_nil, la_int, la_ref, la_long, cat_nil, cat_int, cat_ref, cat_long, call_succ, cont_some, cont_none, rcv_0, rcv_1, rcv_2, rcv_3, rcv_4, rcv_5, rcv_6, rcv_7, rcv_8, rcv_s, rf_some, ret_0, ret_10, ret_11, ret_ite, ite_0, sw_nil, sw_cons, ln_some, isk_some, al_some, ↓reduceIte, Nat.reduceAdd, Nat.reduceEqDiff, Nat.reduceLeDiff, Nat.reduceLT, Int32.reduceLT, Int32.reduceLE, Int32.reduceToNatClampNeg, Int32.reduceOfNat, Int32.reduceAdd, Int32.reduceSub, Int.reduceEq, Int.reduceNeg, Int.reduceLT, Int32.reduceOfInt, Int64.reduceOfInt, Bool.false_eq_true, true_and, and_true, eq_self, not_true_eq_false, not_false_eq_true, false_imp_iff, true_imp_iff, forall_const, or_true, true_or, ne_eq, Nat.zero_add, Nat.add_zero, Nat.le_refl, reduceCtorEq, Ft145, n38, n124]
    exact at162
/-- behind a condition within ( and ) -/
theorem m_closeP {I : pm_I} {p j : Nat} {A W0 : List Int32} {O O1 : List mk} (hc60 : c < 60) (hbb : base = bb + M ∧ bb ≤ 500) (hW0 : ∀ b r, W0 = b :: r → ¬ b = 33) (hA : ∀ x ∈ A, popb 124 x ∨ x = 124) (h : EST I T s base M p (A ++ 40 :: (bgs j ++ W0)) O) (he : O ++ A.map mkO = O1) (n38 : ¬ sgT T s p = 38) (n124 : ¬ sgT T s p = 124) (hf : FE c base I I0)
    (h0 : ¬ sgT T s p = 41 → NO L K Q T s c base I0 p) (h1 : sgT T s p = 41 → ∀ I' : pm_I, EST I' T s base M (p + 1) W0 (O1 ++ bgm j) → FE c base I' I0 → LW X d L K Q c 0 I') : LW X d L K Q c 0 I := by
  intro o ho
  refine m_done hc60 hbb hA (fun b r e => by cases e; rfl) h he n38 n124 hf o ho (fun I1 e1 f1 _ => ?_)
  obtain ⟨hr, hp, hl⟩ := id e1
  obtain ⟨r1, r2, r3, r4, r5⟩ := id hr
  obtain ⟨p1, p2, p3, p4, p5⟩ := id hp
  rw [List.length_cons] at hl p1
  have hne : ¬ nI ((bgs j ++ W0).length + 1) = 0 := nI_ne0 (by omega) (by omega)
  have hpr : nI ((bgs j ++ W0).length + 1) - 1 = nI (bgs j ++ W0).length := nI_pred _
  have ho40 : opn (40 :: (bgs j ++ W0)) = opn (bgs j ++ W0) + 1 := by
    show (if (40 : Int32) = 33 ∨ (40 : Int32) = 40 then 1 else 0) + opn (bgs j ++ W0) = _
    rw [if_pos (Or.inr rfl)]; omega
  rw [ho40] at p5
  have hpo : nI (opn (bgs j ++ W0) + 1) - 1 = nI (opn (bgs j ++ W0)) := nI_pred _
  have z2 : ∀ (J : pm_I) (u v : Nat → Int32), pm_up (pm_up J 122 u) 122 v = pm_up J 122 v := fun J u v => by
    funext a
    by_cases ha : a = 122
    · subst ha; rw [pm_up_eq, pm_up_eq]
    · rw [pm_up_ne ha, pm_up_ne ha, pm_up_ne ha]
  refine pm_run_wp (n := 90) (stops := [22]) ?_
  by_cases h41 : sgT T s p = 41
  · have hps : p < s := sg_lt h41 (by decide)
    simp only [st_iload_n, st_iload, st_lload_n, st_aload_n, st_aload, st_istore_n, st_istore, st_astore_n, st_astore, st_iconst, st_bipush, st_sipush, st_lconst, st_ldc, st_ldc_w, st_ldc2_w, st_getfield, st_putfieldI, st_putfieldR, st_getstatic, st_iaload, st_iastore, st_baload, st_bastore, st_laload, st_lastore, st_aaload, st_aastore, st_arraylength, st_iadd, st_isub, st_imul, st_iand, st_ior, st_ixor, st_ishl, st_ishr, st_idiv, st_irem, st_ineg, st_land, st_lor, st_lshl, st_i2l, st_l2i, st_i2b, st_i2s, st_i2c, st_lcmp, st_iinc, st_dupI, st_dupR, st_dup2, st_pop, st_goto, st_if_eq, st_icmp_eq, st_if_ne, st_icmp_ne, st_if_lt, st_icmp_lt, st_if_ge, st_icmp_ge, st_if_gt, st_icmp_gt, st_if_le, st_icmp_le, st_tsw, st_lsw, st_newarray, st_anewarray, st_new, st_invokevirtual, st_invokespecial, oin_ref, st_static, st_max, st_min, st_abs, st_copyi, st_copyl, st_ireturn, st_lreturn, st_areturn, st_return, rn_succ, inl_nil, inl_cons, rno_some, oi_some, ol_some, or_some, lk_cons, ins_nil, ins_cons, rm_nil, rm_int, rm_ref, rm_long, pop_0, pop_1, pop_2, pop_3, pop_4, pop_5, pop_6, la_nil, la_int, la_ref, la_long, cat_nil, cat_int, cat_ref, cat_long, call_succ, cont_some, cont_none, rcv_0, rcv_1, rcv_2, rcv_3, rcv_4, rcv_5, rcv_6, rcv_7, rcv_8, rcv_s, rf_some, ret_0, ret_10, ret_11, ret_ite, ite_0, sw_nil, sw_cons, ln_some, isk_some, al_some, ↓reduceIte, Nat.reduceAdd, Nat.reduceEqDiff, Nat.reduceLeDiff, Nat.reduceLT, Int32.reduceLT, Int32.reduceLE, Int32.reduceToNatClampNeg, Int32.reduceOfNat, Int32.reduceAdd, Int32.reduceSub, Int.reduceEq, Int.reduceNeg, Int.reduceLT, Int32.reduceOfInt, Int64.reduceOfInt, Bool.false_eq_true, true_and, and_true, eq_self, not_true_eq_false, not_false_eq_true, false_imp_iff, true_imp_iff, forall_const, or_true, true_or, ne_eq, Nat.zero_add, Nat.add_zero, Nat.le_refl, reduceCtorEq, Ft145, shF, p1, hne, h41, hpr, pm_up_eq, z2, pm_upa, p5, hpo, r2, nI_1]
    generalize hJ : pm_up I1 122 (pm_up (pm_up (pm_up (I1 122) 24 (nI (bgs j ++ W0).length)) 25 (nI (opn (bgs j ++ W0)))) 13 (nI (p + 1))) = J
    have k : ∀ i, i ≠ 13 → i ≠ 24 → i ≠ 25 → J 122 i = I1 122 i := fun i a b c => by rw [← hJ, pm_up_eq, pm_up_ne a, pm_up_ne c, pm_up_ne b]
    have ko : ∀ a, a ≠ 122 → J a = I1 a := fun a ha => by rw [← hJ, pm_up_ne ha]
    have k24 : J 122 24 = nI (bgs j ++ W0).length := by rw [← hJ, pm_up_eq, pm_up_ne (by omega), pm_up_ne (by omega), pm_up_eq]
    have k25 : J 122 25 = nI (opn (bgs j ++ W0)) := by rw [← hJ, pm_up_eq, pm_up_ne (by omega), pm_up_eq]
    have k13 : J 122 13 = nI (p + 1) := by rw [← hJ, pm_up_eq, pm_up_eq]
    have pJ : PQ J base (bgs j ++ W0) O1 := pq_pop hp k24 (ko 136 (by omega)) (k 23 (by omega) (by omega) (by omega)) (ko 135 (by omega)) k25
    have hrJ : MD J T s (p + 1) := ⟨(k 12 (by omega) (by omega) (by omega)).trans r1, k13, r3, by omega, fun i hi => by rw [ko 129 (by omega)]; exact r5 i hi⟩
    have fJ : FE c base J I0 := fe_tr ⟨fun a b1 b2 b3 b4 => ko a b1, fun i hi => by rw [ko 135 (by omega)], fun i hi => by rw [ko 134 (by omega)], fun i b1 b2 => k i (by omega) (by omega) (by omega)⟩ f1
    have hl2 : O1.length + (j + W0.length) + M ≤ p := by rw [List.length_append, bgs_len] at hl; omega
    refine m_whole (c := c) hW0 j O1 J _ pJ (by omega) (by rw [List.length_append, bgs_len]; omega) (fun I2 c1 c2 c3 c4 => ?_)
    simp only [st_iload_n, st_iload, st_lload_n, st_aload_n, st_aload, st_istore_n, st_istore, st_astore_n, st_astore, st_iconst, st_bipush, st_sipush, st_lconst, st_ldc, st_ldc_w, st_ldc2_w, st_getfield, st_putfieldI, st_putfieldR, st_getstatic, st_iaload, st_iastore, st_baload, st_bastore, st_laload, st_lastore, st_aaload, st_aastore, st_arraylength, st_iadd, st_isub, st_imul, st_iand, st_ior, st_ixor, st_ishl, st_ishr, st_idiv, st_irem, st_ineg, st_land, st_lor, st_lshl, st_i2l, st_l2i, st_i2b, st_i2s, st_i2c, st_lcmp, st_iinc, st_dupI, st_dupR, st_dup2, st_pop, st_goto, st_if_eq, st_icmp_eq, st_if_ne, st_icmp_ne, st_if_lt, st_icmp_lt, st_if_ge, st_icmp_ge, st_if_gt, st_icmp_gt, st_if_le, st_icmp_le, st_tsw, st_lsw, st_newarray, st_anewarray, st_new, st_invokevirtual, st_invokespecial, oin_ref, st_static, st_max, st_min, st_abs, st_copyi, st_copyl, st_ireturn, st_lreturn, st_areturn, st_return, rn_succ, inl_nil, inl_cons, rno_some, oi_some, ol_some, or_some, lk_cons, ins_nil, ins_cons, rm_nil, rm_int, rm_ref, rm_long, pop_0, pop_1, pop_2, pop_3, pop_4, pop_5, pop_6, la_nil, la_int, la_ref, la_long, cat_nil, cat_int, cat_ref, cat_long, call_succ, cont_some, cont_none, rcv_0, rcv_1, rcv_2, rcv_3, rcv_4, rcv_5, rcv_6, rcv_7, rcv_8, rcv_s, rf_some, ret_0, ret_10, ret_11, ret_ite, ite_0, sw_nil, sw_cons, ln_some, isk_some, al_some, ↓reduceIte, Nat.reduceAdd, Nat.reduceEqDiff, Nat.reduceLeDiff, Nat.reduceLT, Int32.reduceLT, Int32.reduceLE, Int32.reduceToNatClampNeg, Int32.reduceOfNat, Int32.reduceAdd, Int32.reduceSub, Int.reduceEq, Int.reduceNeg, Int.reduceLT, Int32.reduceOfInt, Int64.reduceOfInt, Bool.false_eq_true, true_and, and_true, eq_self, not_true_eq_false, not_false_eq_true, false_imp_iff, true_imp_iff, forall_const, or_true, true_or, ne_eq, Nat.zero_add, Nat.add_zero, Nat.le_refl, reduceCtorEq, Ft145]
    refine h1 h41 I2 ⟨md_fr (c3 12 (by omega) (by omega) (by omega)) (c3 13 (by omega) (by omega) (by omega)) (c2.1 129 (by omega) (by omega) (by omega) (by omega)) hrJ, c1, by rw [List.length_append, bgm_len]; omega⟩ (fe_tr c2 fJ) [(3, .int 41)] (Or.inr ⟨_, rfl⟩)
  · simp only [st_iload_n, st_iload, st_lload_n, st_aload_n, st_aload, st_istore_n, st_istore, st_astore_n, st_astore, st_iconst, st_bipush, st_sipush, st_lconst, st_ldc, st_ldc_w, st_ldc2_w, st_getfield, st_putfieldI, st_putfieldR, st_getstatic, st_iaload, st_iastore, st_baload, st_bastore, st_laload, st_lastore, st_aaload, st_aastore, st_arraylength, st_iadd, st_isub, st_imul, st_iand, st_ior, st_ixor, st_ishl, st_ishr, st_idiv, st_irem, st_ineg, st_land, st_lor, st_lshl, st_i2l, st_l2i, st_i2b, st_i2s, st_i2c, st_lcmp, st_iinc, st_dupI, st_dupR, st_dup2, st_pop, st_goto, st_if_eq, st_icmp_eq, st_if_ne, st_icmp_ne, st_if_lt, st_icmp_lt, st_if_ge, st_icmp_ge, st_if_gt, st_icmp_gt, st_if_le, st_icmp_le, st_tsw, st_lsw, st_newarray, st_anewarray, st_new, st_invokevirtual, st_invokespecial, oin_ref, st_static, st_max, st_min, st_abs, st_copyi, st_copyl, st_ireturn, st_lreturn, st_areturn, st_return, rn_succ, inl_nil, inl_cons, rno_some, oi_some, ol_some, or_some, lk_cons, ins_nil, ins_cons, rm_nil, rm_int, rm_ref, rm_long, pop_0, pop_1, pop_2, pop_3, pop_4, pop_5, pop_6, la_nil, la_int, la_ref, la_long, cat_nil, cat_int, cat_ref, cat_long, call_succ, cont_some, cont_none, rcv_0, rcv_1, rcv_2, rcv_3, rcv_4, rcv_5, rcv_6, rcv_7, rcv_8, rcv_s, rf_some, ret_0, ret_10, ret_11, ret_ite, ite_0, sw_nil, sw_cons, ln_some, isk_some, al_some, ↓reduceIte, Nat.reduceAdd, Nat.reduceEqDiff, Nat.reduceLeDiff, Nat.reduceLT, Int32.reduceLT, Int32.reduceLE, Int32.reduceToNatClampNeg, Int32.reduceOfNat, Int32.reduceAdd, Int32.reduceSub, Int.reduceEq, Int.reduceNeg, Int.reduceLT, Int32.reduceOfInt, Int64.reduceOfInt, Bool.false_eq_true, true_and, and_true, eq_self, not_true_eq_false, not_false_eq_true, false_imp_iff, true_imp_iff, forall_const, or_true, true_or, ne_eq, Nat.zero_add, Nat.add_zero, Nat.le_refl, reduceCtorEq, Ft145, shF, p1, hne, h41]
    exact h0 h41 I1 hr f1
theorem m_part (hc60 : c < 60) (hbb : base = bb + M ∧ bb ≤ 500) : ∀ m, PA X d L K Q T s base c M m I0 := by
  intro m
  induction m with
  | zero =>
    intro j p W0 O I hW0 hm h hf h0 h1
    rw [show ptF T s 0 p = (if sgT T s p = 33 ∨ sgT T s p = 40 then (p, none) else tstF T s p) from rfl] at h0 h1
    have ho : opn (bgs j ++ W0) = 4 := by rw [opn_bgs]; omega
    by_cases hd : sgT T s p = 33 ∨ sgT T s p = 40
    · simp only [if_pos hd] at h0
      exact m_open hd h hf rfl (fun _ => h0 p rfl) (fun z => absurd z (by omega)) (by omega)
    · simp only [if_neg hd] at h0 h1
      exact m_tst hbb hW0 h hf (fun z => hd (Or.inl z)) (fun z => hd (Or.inr z)) h0 h1
  | succ m ih =>
    intro j p W0 O I hW0 hm h hf h0 h1
    have ho : opn (bgs j ++ W0) = j + opn W0 := opn_bgs j W0
    rw [show ptF T s (m + 1) p = (if sgT T s p = 40 then (match jnF T s (jnF T s (ptF T s m) 38) 124 (p + 1) with
        | (p', none) => (p', none)
        | (p', some ms) => if sgT T s p' = 41 then (p' + 1, some ms) else (p', none))
      else if sgT T s p = 33 then (match ptF T s m (p + 1) with
        | (p', none) => (p', none)
        | (p', some ms) => (p', some (ms ++ [(33, 0, 0)])))
      else tstF T s p) from rfl] at h0 h1
    by_cases h40 : sgT T s p = 40
    · simp only [if_pos h40] at h0 h1
      refine m_open (Or.inr rfl) h hf h40 (fun z => absurd z (by omega)) (fun _ I1 e1 f1 => ?_) (by omega)
      have hop : opn (40 :: (bgs j ++ W0)) = 1 + (j + opn W0) := by
        show (if (40 : Int32) = 33 ∨ (40 : Int32) = 40 then 1 else 0) + opn (bgs j ++ W0) = _
        rw [if_pos (Or.inr rfl), ho]
      refine m_exprL hbb ih (C := 40 :: (bgs j ++ W0)) (fun b r e => by cases e; rfl) (by omega) e1 f1 (fun p' e => ?_) (fun p' acc' e I2 A' O' hA' e2 he2 n38 n124 f2 => ?_)
      · rw [e] at h0
        exact h0 p' rfl
      · rw [e] at h0 h1
        dsimp only at h0 h1
        refine m_closeP hc60 hbb hW0 hA' e2 he2 n38 n124 f2 (fun hn => ?_) (fun hy I3 e3 f3 => ?_)
        · simp only [if_neg hn] at h0
          exact h0 p' rfl
        · simp only [if_pos hy] at h1
          exact h1 _ _ rfl I3 e3 f3
    · simp only [if_neg h40] at h0 h1
      by_cases h33 : sgT T s p = 33
      · simp only [if_pos h33] at h0 h1
        refine m_open (Or.inl rfl) h hf h33 (fun z => absurd z (by omega)) (fun _ I1 e1 f1 => ?_) (by omega)
        refine ih (j + 1) (p + 1) W0 O I1 hW0 (by omega) e1 f1 (fun p' e => ?_) (fun p' ms e I2 e2 f2 => ?_)
        · rw [e] at h0
          exact h0 p' rfl
        · rw [e] at h1
          refine h1 _ _ rfl I2 ?_ f2
          have eq : O ++ (ms ++ [(33, 0, 0)]) ++ bgm j = O ++ ms ++ bgm (j + 1) := by
            show _ = O ++ ms ++ ((33, 0, 0) :: bgm j)
            simp only [List.append_assoc, List.singleton_append]
          rw [eq]
          exact e2
      · simp only [if_neg h33] at h0 h1
        exact m_tst hbb hW0 h hf h33 h40 h0 h1
/-- a condition: where its marks begin, where they end -/
theorem m_takesE {I : pm_I} {p : Nat} (hc60 : c < 60) (hbb : base = bb + M ∧ bb ≤ 500) (hr : MD I T s p) (h23 : I 122 23 = nI base) (hM : M ≤ p)
    (h0 : ∀ p', exF T s p = (p', none) → ∀ I' : pm_I, MD I' T s p' → FE c base I' (pm_up I 133 (pm_up (I 133) c (nI base))) → Q (some (.int 0)) SH I' L (RR K))
    (h1 : ∀ p' ms, exF T s p = (p', some ms) → ∀ I' : pm_I, MD I' T s p' → FE c base I' (pm_up I 133 (pm_up (I 133) c (nI base))) → I' 134 c = nI (base + ms.length) → I' 122 23 = nI (base + ms.length) → (∀ j m, ms[j]? = some m → EN m (I' 135 (base + j))) → ms.length + M ≤ p' → Q (some (.int 1)) SH I' L (RR K)) :
    pm_wp X (d + 4) 145 0 [(0, .ref 122), (1, .int (nI c))] [] 0 0 SH I L (RR K) Q := by
  have hv : vp_in (nI c) 60 := vi (by omega) (by omega)
  have hcc : (nI c).toNatClampNeg = c := nI_clamp (by omega)
  obtain ⟨r1, r2, r3, r4, r5⟩ := id hr
  have z2 : ∀ (J : pm_I) (u v : Nat → Int32), pm_up (pm_up J 122 u) 122 v = pm_up J 122 v := fun J u v => by
    funext a
    by_cases ha : a = 122
    · subst ha; rw [pm_up_eq, pm_up_eq]
    · rw [pm_up_ne ha, pm_up_ne ha, pm_up_ne ha]
  have e33 : ∀ u : Nat → Int32, pm_up I 122 u 133 = I 133 := fun u => pm_up_ne (by omega)
  refine pm_run_wp (n := 90) (stops := [22]) ?_
  simp only [st_iload_n, st_iload, st_lload_n, st_aload_n, st_aload, st_istore_n, st_istore, st_astore_n, st_astore, st_iconst, st_bipush, st_sipush, st_lconst, st_ldc, st_ldc_w, st_ldc2_w, st_getfield, st_putfieldI, st_putfieldR, st_getstatic, st_iaload, st_iastore, st_baload, st_bastore, st_laload, st_lastore, st_aaload, st_aastore, st_arraylength, st_iadd, st_isub, st_imul, st_iand, st_ior, st_ixor, st_ishl, st_ishr, st_idiv, st_irem, st_ineg, st_land, st_lor, st_lshl, st_i2l, st_l2i, st_i2b, st_i2s, st_i2c, st_lcmp, st_iinc, st_dupI, st_dupR, st_dup2, st_pop, st_goto, st_if_eq, st_icmp_eq, st_if_ne, st_icmp_ne, st_if_lt, st_icmp_lt, st_if_ge, st_icmp_ge, st_if_gt, st_icmp_gt, st_if_le, st_icmp_le, st_tsw, st_lsw, st_newarray, st_anewarray, st_new, st_invokevirtual, st_invokespecial, oin_ref, st_static, st_max, st_min, st_abs, st_copyi, st_copyl, st_ireturn, st_lreturn, st_areturn, st_return, rn_succ, inl_nil, inl_cons, rno_some, oi_some, ol_some, or_some, lk_cons, ins_nil, ins_cons, rm_nil, rm_int, rm_ref, rm_long, pop_0, pop_1, pop_2, pop_3, pop_4, pop_5, pop_6, la_nil, la_int, la_ref, la_long, cat_nil, cat_int, cat_ref, cat_long, call_succ, cont_some, cont_none, rcv_0, rcv_1, rcv_2, rcv_3, rcv_4, rcv_5, rcv_6, rcv_7, rcv_8, rcv_s, rf_some, ret_0, ret_10, ret_11, ret_ite, ite_0, sw_nil, sw_cons, ln_some, isk_some, al_some, ↓reduceIte, Nat.reduceAdd, Nat.reduceEqDiff, Nat.reduceLeDiff, Nat.reduceLT, Int32.reduceLT, Int32.reduceLE, Int32.reduceToNatClampNeg, Int32.reduceOfNat, Int32.reduceAdd, Int32.reduceSub, Int.reduceEq, Int.reduceNeg, Int.reduceLT, Int32.reduceOfInt, Int64.reduceOfInt, Bool.false_eq_true, true_and, and_true, eq_self, not_true_eq_false, not_false_eq_true, false_imp_iff, true_imp_iff, forall_const, or_true, true_or, ne_eq, Nat.zero_add, Nat.add_zero, Nat.le_refl, reduceCtorEq, Ft145, shF, rrF K, hv, hcc, z2, pm_up_eq, pm_upa, h23, e33]
  generalize hJ : pm_up (pm_up I 122 (pm_up (pm_up (I 122) 24 0) 25 0)) 133 (pm_up (I 133) c (nI base)) = J
  have k : ∀ i, i ≠ 24 → i ≠ 25 → J 122 i = I 122 i := fun i a b => by rw [← hJ, pm_up_ne (by omega), pm_up_eq, pm_up_ne b, pm_up_ne a]
  have ko : ∀ a, a ≠ 122 → J a = pm_up I 133 (pm_up (I 133) c (nI base)) a := fun a ha => by
    rw [← hJ]
    by_cases h133 : a = 133
    · subst h133; rw [pm_up_eq, pm_up_eq]
    · rw [pm_up_ne h133, pm_up_ne ha, pm_up_ne h133]
  have hrJ : MD J T s p := ⟨(k 12 (by omega) (by omega)).trans r1, (k 13 (by omega) (by omega)).trans r2, r3, r4, fun i hi => by rw [ko 129 (by omega), pm_up_ne (by omega)]; exact r5 i hi⟩
  have pJ : PQ J base [] [] := ⟨by rw [← hJ, pm_up_ne (by omega), pm_up_eq, pm_up_ne (by omega), pm_up_eq]; rfl, fun j b hj => (by cases hj), by rw [k 23 (by omega) (by omega), h23]; rfl, fun j m hj => (by cases hj), by rw [← hJ, pm_up_ne (by omega), pm_up_eq, pm_up_eq]; rfl⟩
  have fJ : FE c base J (pm_up I 133 (pm_up (I 133) c (nI base))) := ⟨fun a b1 b2 b3 b4 => ko a b1, fun i hi => by rw [ko 135 (by omega)], fun i hi => by rw [ko 134 (by omega)], fun i b1 b2 => by rw [pm_up_ne (show (122 : Nat) ≠ 133 by omega)]; exact k i (by omega) (by omega)⟩
  have main : LW X d L K Q c 1 J := by
    refine m_exprL (m := 4) hbb (m_part hc60 hbb 4) (C := []) (fun b r e => by cases e) rfl (O0 := []) ⟨hrJ, pJ, by simpa using hM⟩ fJ (fun p' e I' a1 a2 => h0 p' e I' a1 a2) (fun p' ms e I2 A' O' hA' e2 he2 n38 n124 f2 => ?_)
    intro o ho
    refine m_done hc60 hbb hA' (fun b r e => by cases e) e2 he2 n38 n124 f2 o ho (fun I3 e3 f3 t3 => ?_)
    obtain ⟨g1, ⟨g2, g3, g4, g5, g6⟩, g7⟩ := e3
    rw [List.nil_append] at t3 g4 g5 g7
    have g2' : I3 122 24 = 0 := g2
    refine pm_run_wp (n := 90) (stops := [22]) ?_
    simp only [st_iload_n, st_iload, st_lload_n, st_aload_n, st_aload, st_istore_n, st_istore, st_astore_n, st_astore, st_iconst, st_bipush, st_sipush, st_lconst, st_ldc, st_ldc_w, st_ldc2_w, st_getfield, st_putfieldI, st_putfieldR, st_getstatic, st_iaload, st_iastore, st_baload, st_bastore, st_laload, st_lastore, st_aaload, st_aastore, st_arraylength, st_iadd, st_isub, st_imul, st_iand, st_ior, st_ixor, st_ishl, st_ishr, st_idiv, st_irem, st_ineg, st_land, st_lor, st_lshl, st_i2l, st_l2i, st_i2b, st_i2s, st_i2c, st_lcmp, st_iinc, st_dupI, st_dupR, st_dup2, st_pop, st_goto, st_if_eq, st_icmp_eq, st_if_ne, st_icmp_ne, st_if_lt, st_icmp_lt, st_if_ge, st_icmp_ge, st_if_gt, st_icmp_gt, st_if_le, st_icmp_le, st_tsw, st_lsw, st_newarray, st_anewarray, st_new, st_invokevirtual, st_invokespecial, oin_ref, st_static, st_max, st_min, st_abs, st_copyi, st_copyl, st_ireturn, st_lreturn, st_areturn, st_return, rn_succ, inl_nil, inl_cons, rno_some, oi_some, ol_some, or_some, lk_cons, ins_nil, ins_cons, rm_nil, rm_int, rm_ref, rm_long, pop_0, pop_1, pop_2, pop_3, pop_4, pop_5, pop_6, la_nil, la_int, la_ref, la_long, cat_nil, cat_int, cat_ref, cat_long, call_succ, cont_some, cont_none, rcv_0, rcv_1, rcv_2, rcv_3, rcv_4, rcv_5, rcv_6, rcv_7, rcv_8, rcv_s, rf_some, ret_0, ret_10, ret_11, ret_ite, ite_0, sw_nil, sw_cons, ln_some, isk_some, al_some, ↓reduceIte, Nat.reduceAdd, Nat.reduceEqDiff, Nat.reduceLeDiff, Nat.reduceLT, Int32.reduceLT, Int32.reduceLE, Int32.reduceToNatClampNeg, Int32.reduceOfNat, Int32.reduceAdd, Int32.reduceSub, Int.reduceEq, Int.reduceNeg, Int.reduceLT, Int32.reduceOfInt, Int64.reduceOfInt, Bool.false_eq_true, true_and, and_true, eq_self, not_true_eq_false, not_false_eq_true, false_imp_iff, true_imp_iff, forall_const, or_true, true_or, ne_eq, Nat.zero_add, Nat.add_zero, Nat.le_refl, reduceCtorEq, Ft145, shF, g2']
    simp only [List.length_nil, Nat.add_zero] at g7
    exact h1 p' ms e I3 g1 f3 t3 g4 g5 g7
  exact main [] (Or.inl rfl)
end MPT
