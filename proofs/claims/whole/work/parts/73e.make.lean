section MAKE6
variable {X : pm_X} {d : Nat} {I : pm_I} {L : pm_L} {R : pm_R} {Q : pm_Q}
theorem xx_122 : pm_up (pm_up (pm_up (pm_up (pm_up (pm_up (pm_up (pm_up (pm_up (pm_up (pm_up (pm_up (pm_up (pm_up (pm_up (pm_up (pm_up (pm_up (pm_up (pm_up (pm_up (pm_up (pm_up (pm_up (pm_up (pm_up (pm_up (pm_up (fun _ => 0) 0 0) 1 0) 2 0) 3 0) 10 0) 11 (-1)) 12 0) 13 0) 14 0) 23 0) 24 0) 25 0) 30 0) 31 0) 32 0) 37 0) 41 0) 42 0) 47 0) 48 (-1)) 49 0) 50 0) 51 0) 52 0) 53 0) 54 0) 55 0) 69 0 = I0 122 := by
  funext k
  match k with
  | 0 => rfl
  | 1 => rfl
  | 2 => rfl
  | 3 => rfl
  | 4 => rfl
  | 5 => rfl
  | 6 => rfl
  | 7 => rfl
  | 8 => rfl
  | 9 => rfl
  | 10 => rfl
  | 11 => rfl
  | 12 => rfl
  | 13 => rfl
  | 14 => rfl
  | 15 => rfl
  | 16 => rfl
  | 17 => rfl
  | 18 => rfl
  | 19 => rfl
  | 20 => rfl
  | 21 => rfl
  | 22 => rfl
  | 23 => rfl
  | 24 => rfl
  | 25 => rfl
  | 26 => rfl
  | 27 => rfl
  | 28 => rfl
  | 29 => rfl
  | 30 => rfl
  | 31 => rfl
  | 32 => rfl
  | 33 => rfl
  | 34 => rfl
  | 35 => rfl
  | 36 => rfl
  | 37 => rfl
  | 38 => rfl
  | 39 => rfl
  | 40 => rfl
  | 41 => rfl
  | 42 => rfl
  | 43 => rfl
  | 44 => rfl
  | 45 => rfl
  | 46 => rfl
  | 47 => rfl
  | 48 => rfl
  | 49 => rfl
  | 50 => rfl
  | 51 => rfl
  | 52 => rfl
  | 53 => rfl
  | 54 => rfl
  | 55 => rfl
  | 56 => rfl
  | 57 => rfl
  | 58 => rfl
  | 59 => rfl
  | 60 => rfl
  | 61 => rfl
  | 62 => rfl
  | 63 => rfl
  | 64 => rfl
  | 65 => rfl
  | 66 => rfl
  | 67 => rfl
  | 68 => rfl
  | 69 => rfl
  | 70 => rfl
  | 71 => rfl
  | 72 => rfl
  | 73 => rfl
  | 74 => rfl
  | n + 75 => simp [pm_up, I0]
theorem yy_122 : pm_up (pm_up (pm_up (pm_up (pm_up (pm_up (pm_up (pm_up (pm_up (pm_up (pm_up (pm_up (pm_up (pm_up (pm_up (pm_up (pm_up (pm_up (pm_up (pm_up (pm_up (pm_up (pm_up (pm_up (pm_up (pm_up (pm_up (pm_up (pm_up (pm_up (pm_up (pm_up (pm_up (pm_up (pm_up (pm_up (pm_up (pm_up (pm_up (pm_up (pm_up (pm_up (pm_up (pm_up (pm_up (pm_up (pm_up (fun _ => none) 4 (some 123)) 5 (some 124)) 6 (some 125)) 7 (some 126)) 8 (some 127)) 9 (some 128)) 15 (some 129)) 16 (some 130)) 17 (some 131)) 18 (some 132)) 19 (some 133)) 20 (some 134)) 21 (some 135)) 22 (some 136)) 26 (some 137)) 27 (some 138)) 28 (some 139)) 29 (some 140)) 33 (some 141)) 34 (some 142)) 35 (some 143)) 36 (some 144)) 38 (some 145)) 39 (some 146)) 40 (some 147)) 43 (some 148)) 44 (some 149)) 45 (some 150)) 46 (some 151)) 56 (some 152)) 57 (some 153)) 58 (some 154)) 59 (some 155)) 60 (some 156)) 61 (some 157)) 62 (some 158)) 63 (some 159)) 64 (some 160)) 65 (some 161)) 66 (some 162)) 67 (some 163)) 68 (some 164)) 70 (some 165)) 71 (some 166)) 72 (some 167)) 73 (some 168)) 74 (some 169) = RR K0 122 := by
  funext k
  match k with
  | 0 => rfl
  | 1 => rfl
  | 2 => rfl
  | 3 => rfl
  | 4 => rfl
  | 5 => rfl
  | 6 => rfl
  | 7 => rfl
  | 8 => rfl
  | 9 => rfl
  | 10 => rfl
  | 11 => rfl
  | 12 => rfl
  | 13 => rfl
  | 14 => rfl
  | 15 => rfl
  | 16 => rfl
  | 17 => rfl
  | 18 => rfl
  | 19 => rfl
  | 20 => rfl
  | 21 => rfl
  | 22 => rfl
  | 23 => rfl
  | 24 => rfl
  | 25 => rfl
  | 26 => rfl
  | 27 => rfl
  | 28 => rfl
  | 29 => rfl
  | 30 => rfl
  | 31 => rfl
  | 32 => rfl
  | 33 => rfl
  | 34 => rfl
  | 35 => rfl
  | 36 => rfl
  | 37 => rfl
  | 38 => rfl
  | 39 => rfl
  | 40 => rfl
  | 41 => rfl
  | 42 => rfl
  | 43 => rfl
  | 44 => rfl
  | 45 => rfl
  | 46 => rfl
  | 47 => rfl
  | 48 => rfl
  | 49 => rfl
  | 50 => rfl
  | 51 => rfl
  | 52 => rfl
  | 53 => rfl
  | 54 => rfl
  | 55 => rfl
  | 56 => rfl
  | 57 => rfl
  | 58 => rfl
  | 59 => rfl
  | 60 => rfl
  | 61 => rfl
  | 62 => rfl
  | 63 => rfl
  | 64 => rfl
  | 65 => rfl
  | 66 => rfl
  | 67 => rfl
  | 68 => rfl
  | 69 => rfl
  | 70 => rfl
  | 71 => rfl
  | 72 => rfl
  | 73 => rfl
  | 74 => rfl
  | n + 75 =>
    unfold RR
    rw [if_neg (by omega), show RRl.getD 122 [] = [(4, 123), (5, 124), (6, 125), (7, 126), (8, 127), (9, 128), (15, 129), (16, 130), (17, 131), (18, 132), (19, 133), (20, 134), (21, 135), (22, 136), (26, 137), (27, 138), (28, 139), (29, 140), (33, 141), (34, 142), (35, 143), (36, 144), (38, 145), (39, 146), (40, 147), (43, 148), (44, 149), (45, 150), (46, 151), (56, 152), (57, 153), (58, 154), (59, 155), (60, 156), (61, 157), (62, 158), (63, 159), (64, 160), (65, 161), (66, 162), (67, 163), (68, 164), (70, 165), (71, 166), (72, 167), (73, 168), (74, 169)] from rfl]
    simp [pm_up, List.lookup]
theorem tt_K0 : TT (RR K0 1) (RR K0 30) = RR K0 := by
  funext a
  unfold TT pm_up
  by_cases z : a = 30
  · rw [if_pos z, z]
  · rw [if_neg z]
    by_cases y : a = 1
    · rw [if_pos y, y]
    · rw [if_neg y]
theorem rr_far {a : Nat} (h : 170 ≤ a) : RR K0 a = fun _ => none := by
  funext k
  unfold RR
  have l : RRl.length ≤ 170 := by decide +kernel
  rw [if_neg (by omega), List.getD_eq_getElem?_getD, List.getElem?_eq_none (by omega)]
  rfl
theorem scl_r' {m a j : Nat} {l : pm_l} (g : pm_scl m l) : pm_scl m ((j, .ref (1000000 + a)) :: l) := by
  intro q hq i e
  rcases List.mem_cons.mp hq with z | z
  · subst z; cases e; exact Or.inr (Nat.le_add_right _ _)
  · exact g q z i e
/-- the law's beginning: both objects stand -/
theorem law_make (z0 : I = (fun _ _ => 0) ∧ L = (fun _ _ => 0) ∧ R = fun _ _ => none)
    (h : ∀ I L, (∀ a, a < 170 → I a = I0 a ∧ L a = fun _ => 0) → pm_wp X (d + 25) 227 18 [(0, .ref 1000000), (1, .ref 0), (2, .ref 122), (3, .int 0)] [] 187 7690 SH I L (RR K0) Q) : pm_wp X (d + 25) 227 0 [(0, .ref 1000000)] [] 0 0 [] I L R Q := by
  have l0 : (SH.take 1).length = 1 := sh_ln (by decide)
  have l1 : (SH.take 122).length = 122 := sh_ln (by decide)
  have l2 : (SH.take 123).length = 123 := sh_ln (by decide)
  have t0 : ([] : pm_S) ++ [(0, 7)] = SH.take 1 := rfl
  have t1 : SH.take 122 ++ [(0, 8)] = SH.take 123 := sh_tk rfl
  have ln : ([] : pm_S).length = 0 := rfl
  refine pm_gos (n := 60) (stops := [18]) ?_
  simp only [st_iload_n, st_iload, st_lload_n, st_aload_n, st_aload, st_istore_n, st_istore, st_astore_n, st_astore, st_iconst, st_bipush, st_sipush, st_lconst, st_ldc, st_ldc_w, st_ldc2_w, st_getfield, st_putfieldI, st_putfieldR, st_getstatic, st_iaload, st_iastore, st_baload, st_bastore, st_laload, st_lastore, st_aaload, st_aastore, st_arraylength, st_iadd, st_isub, st_imul, st_iand, st_ior, st_ixor, st_ishl, st_ishr, st_idiv, st_irem, st_ineg, st_land, st_lor, st_lshl, st_i2l, st_l2i, st_i2b, st_i2s, st_i2c, st_lcmp, st_iinc, st_dupI, st_dupR, st_dup2, st_pop, st_goto, st_if_eq, st_icmp_eq, st_if_ne, st_icmp_ne, st_if_lt, st_icmp_lt, st_if_ge, st_icmp_ge, st_if_gt, st_icmp_gt, st_if_le, st_icmp_le, st_tsw, st_lsw, st_newarray, st_anewarray, st_new, st_invokevirtual, st_invokespecial, oin_ref, st_static, st_max, st_min, st_abs, st_copyi, st_copyl, st_ireturn, st_lreturn, st_areturn, st_return, rn_succ, inl_nil, inl_cons, rno_some, oi_some, ol_some, or_some, lk_cons, ins_nil, ins_cons, rm_nil, rm_int, rm_ref, rm_long, pop_0, pop_1, pop_2, pop_3, pop_4, pop_5, pop_6, la_nil, la_int, la_ref, la_long, cat_nil, cat_int, cat_ref, cat_long, call_succ, cont_some, cont_none, rcv_0, rcv_1, rcv_2, rcv_3, rcv_4, rcv_5, rcv_6, rcv_7, rcv_8, rcv_s, rf_some, ret_0, ret_10, ret_11, ret_ite, ite_0, sw_nil, sw_cons, ln_some, isk_some, al_some, ↓reduceIte, Nat.reduceAdd, Nat.reduceEqDiff, Nat.reduceLeDiff, Nat.reduceLT, Int32.reduceLT, Int32.reduceLE, Int32.reduceToNatClampNeg, Int32.reduceOfNat, Int32.reduceAdd, Int32.reduceSub, Int.reduceEq, Int.reduceNeg, Int.reduceLT, Int32.reduceOfInt, Int64.reduceOfInt, Bool.false_eq_true, true_and, and_true, eq_self, not_true_eq_false, not_false_eq_true, false_imp_iff, true_imp_iff, forall_const, or_true, true_or, ne_eq, Nat.zero_add, Nat.add_zero, Nat.le_refl, reduceCtorEq, Ft227a, l0, l1, l2, t0, t1, ln, and_self]
  refine ⟨⟨by decide, by decide, by decide, by decide, scl_r' (a := 0) scl_n, scv_n⟩, by unfold pm_nf3; decide, Or.inr ⟨scl_r' (a := 0) scl_n, scv_r (by decide) scv_n⟩, w_x74 ⟨?_, ?_, ?_⟩ fun I1 L1 R1 a1 a2 => ?_⟩
  · rw [z0.1]; rfl
  · rw [z0.2.1]; rfl
  · intro a
    rw [z0.2.2]
    unfold pm_up
    split <;> rfl
  simp only [st_iload_n, st_iload, st_lload_n, st_aload_n, st_aload, st_istore_n, st_istore, st_astore_n, st_astore, st_iconst, st_bipush, st_sipush, st_lconst, st_ldc, st_ldc_w, st_ldc2_w, st_getfield, st_putfieldI, st_putfieldR, st_getstatic, st_iaload, st_iastore, st_baload, st_bastore, st_laload, st_lastore, st_aaload, st_aastore, st_arraylength, st_iadd, st_isub, st_imul, st_iand, st_ior, st_ixor, st_ishl, st_ishr, st_idiv, st_irem, st_ineg, st_land, st_lor, st_lshl, st_i2l, st_l2i, st_i2b, st_i2s, st_i2c, st_lcmp, st_iinc, st_dupI, st_dupR, st_dup2, st_pop, st_goto, st_if_eq, st_icmp_eq, st_if_ne, st_icmp_ne, st_if_lt, st_icmp_lt, st_if_ge, st_icmp_ge, st_if_gt, st_icmp_gt, st_if_le, st_icmp_le, st_tsw, st_lsw, st_newarray, st_anewarray, st_new, st_invokevirtual, st_invokespecial, oin_ref, st_static, st_max, st_min, st_abs, st_copyi, st_copyl, st_ireturn, st_lreturn, st_areturn, st_return, rn_succ, inl_nil, inl_cons, rno_some, oi_some, ol_some, or_some, lk_cons, ins_nil, ins_cons, rm_nil, rm_int, rm_ref, rm_long, pop_0, pop_1, pop_2, pop_3, pop_4, pop_5, pop_6, la_nil, la_int, la_ref, la_long, cat_nil, cat_int, cat_ref, cat_long, call_succ, cont_some, cont_none, rcv_0, rcv_1, rcv_2, rcv_3, rcv_4, rcv_5, rcv_6, rcv_7, rcv_8, rcv_s, rf_some, ret_0, ret_10, ret_11, ret_ite, ite_0, sw_nil, sw_cons, ln_some, isk_some, al_some, ↓reduceIte, Nat.reduceAdd, Nat.reduceEqDiff, Nat.reduceLeDiff, Nat.reduceLT, Int32.reduceLT, Int32.reduceLE, Int32.reduceToNatClampNeg, Int32.reduceOfNat, Int32.reduceAdd, Int32.reduceSub, Int.reduceEq, Int.reduceNeg, Int.reduceLT, Int32.reduceOfInt, Int64.reduceOfInt, Bool.false_eq_true, true_and, and_true, eq_self, not_true_eq_false, not_false_eq_true, false_imp_iff, true_imp_iff, forall_const, or_true, true_or, ne_eq, Nat.zero_add, Nat.add_zero, Nat.le_refl, reduceCtorEq, Ft227a, l0, l1, l2, t0, t1, ln, and_self]
  have c0 : CF (RR K0 1) (RR K0 30) 0 122 I1 L1 R1 := ⟨fun a h1 h2 h3 => by rw [tt_K0]; exact a1 a h3, a2⟩
  refine ⟨rm_g (by decide) (by decide) (by decide) (by decide) (scl_r' (a := 0) (scl_r (by decide) scl_n)) scv_n, by unfold pm_nf3; decide, Or.inr ⟨scl_r' (a := 0) (scl_r (by decide) scl_n), scv_r (by decide) scv_n⟩, w_x121 (Ua := RR K0 1) (Ub := RR K0 30) (cn_new c0) xx_122 (by rw [tt_K0]; exact yy_122) fun I2 L2 R2 c2 k2 => ?_⟩
  have k0 : I2 0 = I0 0 ∧ L2 0 = (fun _ => 0) ∧ R2 0 = RR K0 0 := by
    obtain ⟨g1, g2, g3⟩ := k2 0 (Or.inl rfl)
    obtain ⟨f1, f2, f3⟩ := a1 0 (by decide)
    exact ⟨g1.trans f1, g2.trans f2, g3.trans f3⟩
  have hR : R2 = RR K0 := by
    funext a
    by_cases z : a = 0
    · rw [z]; exact k0.2.2
    · by_cases y : a < 170
      · rw [(c2.1 a (by omega) z y).2.2, tt_K0]
      · rw [c2.2 a (by omega), rr_far (by omega)]
  have hI : ∀ a, a < 170 → I2 a = I0 a ∧ L2 a = fun _ => 0 := by
    intro a ha
    by_cases z : a = 0
    · rw [z]; exact ⟨k0.1, k0.2.1⟩
    · exact ⟨(c2.1 a (by omega) z ha).1, (c2.1 a (by omega) z ha).2.1⟩
  have hS : SH.take 170 = SH := rfl
  rw [hR, hS]
  simp only [st_iload_n, st_iload, st_lload_n, st_aload_n, st_aload, st_istore_n, st_istore, st_astore_n, st_astore, st_iconst, st_bipush, st_sipush, st_lconst, st_ldc, st_ldc_w, st_ldc2_w, st_getfield, st_putfieldI, st_putfieldR, st_getstatic, st_iaload, st_iastore, st_baload, st_bastore, st_laload, st_lastore, st_aaload, st_aastore, st_arraylength, st_iadd, st_isub, st_imul, st_iand, st_ior, st_ixor, st_ishl, st_ishr, st_idiv, st_irem, st_ineg, st_land, st_lor, st_lshl, st_i2l, st_l2i, st_i2b, st_i2s, st_i2c, st_lcmp, st_iinc, st_dupI, st_dupR, st_dup2, st_pop, st_goto, st_if_eq, st_icmp_eq, st_if_ne, st_icmp_ne, st_if_lt, st_icmp_lt, st_if_ge, st_icmp_ge, st_if_gt, st_icmp_gt, st_if_le, st_icmp_le, st_tsw, st_lsw, st_newarray, st_anewarray, st_new, st_invokevirtual, st_invokespecial, oin_ref, st_static, st_max, st_min, st_abs, st_copyi, st_copyl, st_ireturn, st_lreturn, st_areturn, st_return, rn_succ, inl_nil, inl_cons, rno_some, oi_some, ol_some, or_some, lk_cons, ins_nil, ins_cons, rm_nil, rm_int, rm_ref, rm_long, pop_0, pop_1, pop_2, pop_3, pop_4, pop_5, pop_6, la_nil, la_int, la_ref, la_long, cat_nil, cat_int, cat_ref, cat_long, call_succ, cont_some, cont_none, rcv_0, rcv_1, rcv_2, rcv_3, rcv_4, rcv_5, rcv_6, rcv_7, rcv_8, rcv_s, rf_some, ret_0, ret_10, ret_11, ret_ite, ite_0, sw_nil, sw_cons, ln_some, isk_some, al_some, ↓reduceIte, Nat.reduceAdd, Nat.reduceEqDiff, Nat.reduceLeDiff, Nat.reduceLT, Int32.reduceLT, Int32.reduceLE, Int32.reduceToNatClampNeg, Int32.reduceOfNat, Int32.reduceAdd, Int32.reduceSub, Int.reduceEq, Int.reduceNeg, Int.reduceLT, Int32.reduceOfInt, Int64.reduceOfInt, Bool.false_eq_true, true_and, and_true, eq_self, not_true_eq_false, not_false_eq_true, false_imp_iff, true_imp_iff, forall_const, or_true, true_or, ne_eq, Nat.zero_add, Nat.add_zero, Nat.le_refl, reduceCtorEq, Ft227a, l0, l1, l2, t0, t1, ln, and_self]
  exact h _ _ hI
end MAKE6
