section MAKE4
variable {Ua Ub : Nat → Option Nat} {X : pm_X} {d : Nat} {I : pm_I} {L : pm_L} {R : pm_R} {Q : pm_Q} {J : pm_I} {M : pm_L} {S : pm_R} {ro : Nat → Option Nat} {io : Nat → Int32}
theorem up_s {α : Type} {f : Nat → α} {k : Nat} {x : α} : pm_up f k x k = x := if_pos rfl
theorem up_u {α : Type} {f : Nat → α} {k : Nat} {x y : α} : pm_up (pm_up f k x) k y = pm_up f k y := by
  funext j
  unfold pm_up
  by_cases h : j = k
  · rw [if_pos h, if_pos h]
  · rw [if_neg h, if_neg h, if_neg h]
theorem mk_ax {e b m F : Nat} {f : Nat → Int32} (hb : b < m) (he : e < m) (x : f = I0 m) (y : TT Ua Ub m = fun _ => none) (q : BLD Ua Ub e b m ro io J M S I L R) :
    BLD Ua Ub e b (m + 1) (pm_up ro F (some m)) io J M S (pm_up I m f) (pm_up L m fun _ => 0) (pm_up (pm_up R m fun _ => none) b (pm_up (pm_up R m (fun _ => none) b) F (some m))) := by
  obtain ⟨⟨c1, c2⟩, ⟨c3, c4, c5⟩, c6⟩ := q
  have n1 : ¬ b = m := by omega
  refine ⟨⟨fun a h1 h2 h3 h4 => ?_, fun a h => ?_⟩, ⟨?_, ?_, ?_⟩, fun a h1 h2 => ?_⟩
  · by_cases z : a = m
    · subst z
      simp [pm_up, x, y, h3]
    · simp [pm_up, z, h3]
      exact c1 a h1 h2 h3 (by omega)
  · have n2 : ¬ a = b := by omega
    have n3 : ¬ a = m := by omega
    simp [pm_up, n2, n3]
    exact c2 a (by omega)
  · simp [pm_up, n1, c3]
  · simp [pm_up, n1, c4]
  · simp [pm_up, n1, c5]
  · have n3 : ¬ a = m := by omega
    simp [pm_up, n3, h2]
    exact c6 a h1 h2
theorem y_137 : TT Ua Ub 137 = fun _ => none := by
  show RR K0 137 = _
  funext j
  unfold RR
  rw [if_neg (fun h => absurd h.2 (by decide))]
  rfl
theorem y_166 : TT Ua Ub 166 = fun _ => none := by
  show RR K0 166 = _
  funext j
  unfold RR
  rw [if_neg (fun h => absurd h.2 (by decide))]
  rfl
theorem a_137 : pm_up (pm_up (pm_up (pm_up (pm_up (pm_up (pm_up (pm_up (pm_up (pm_up (pm_up (pm_up (pm_up (pm_up (pm_up (pm_up (pm_up (pm_up (pm_up (pm_up (pm_up (pm_up (pm_up (fun _ => 0) 0 108) 1 111) 2 117) 3 100) 4 101) 5 114) 6 115) 7 111) 8 102) 9 116) 10 101) 11 114) 12 115) 13 116) 14 101) 15 112) 16 119) 17 97) 18 107) 19 101) 20 112) 21 97) 22 121 = I0 137 := by
  funext j
  match j with
  | 0 => rfl
  | 1 => rfl
  | 2 => rfl
  | 3 => rfl
  | 4 => rfl
  | 5 => rfl
  | 6 => rfl
  | 7 => rfl
  | 8 => rfl
  | 9 => rfl
  | 10 => rfl
  | 11 => rfl
  | 12 => rfl
  | 13 => rfl
  | 14 => rfl
  | 15 => rfl
  | 16 => rfl
  | 17 => rfl
  | 18 => rfl
  | 19 => rfl
  | 20 => rfl
  | 21 => rfl
  | 22 => rfl
  | n + 23 => simp [pm_up, I0, ltr0]
theorem a_166 : pm_up (pm_up (pm_up (pm_up (pm_up (pm_up (fun _ => 0) 0 (-1)) 1 (-1)) 2 (-1)) 3 (-1)) 4 (-1)) 5 (-1) = I0 166 := by
  funext j
  match j with
  | 0 => rfl
  | 1 => rfl
  | 2 => rfl
  | 3 => rfl
  | 4 => rfl
  | 5 => rfl
  | n + 6 => simp [pm_up, I0, ltr0]
theorem w121_0 (q : BLD Ua Ub 0 122 123 ro io J M S I L R)
    (h : ∀ I L R, BLD Ua Ub 0 122 126 (pm_up (pm_up (pm_up (ro) 4 (some 123)) 5 (some 124)) 6 (some 125)) (pm_up (pm_up (pm_up (pm_up (io) 0 0) 1 0) 2 0) 3 0) J M S I L R → pm_wp X (d + 1) 121 48 [(0, .ref 122)] [] 3 18 (SH.take 126) I L R Q) : pm_wp X (d + 1) 121 0 [(0, .ref 122)] [] 0 0 (SH.take 123) I L R Q := by
  have e123 : (SH.take 123)[122]? = some (0, 8) := (sh_at (by decide)).trans rfl
  have l123 : (SH.take 123).length = 123 := sh_ln (by decide)
  have e124 : (SH.take 124)[122]? = some (0, 8) := (sh_at (by decide)).trans rfl
  have l124 : (SH.take 124).length = 124 := sh_ln (by decide)
  have e125 : (SH.take 125)[122]? = some (0, 8) := (sh_at (by decide)).trans rfl
  have l125 : (SH.take 125).length = 125 := sh_ln (by decide)
  have e126 : (SH.take 126)[122]? = some (0, 8) := (sh_at (by decide)).trans rfl
  have l126 : (SH.take 126).length = 126 := sh_ln (by decide)
  have t123 : SH.take 123 ++ [(1, 6)] = SH.take 124 := sh_tk rfl
  have t124 : SH.take 124 ++ [(1, 6)] = SH.take 125 := sh_tk rfl
  have t125 : SH.take 125 ++ [(1, 6)] = SH.take 126 := sh_tk rfl
  refine pm_gos (n := 60) (stops := [48]) ?_
  simp only [st_iload_n, st_iload, st_lload_n, st_aload_n, st_aload, st_istore_n, st_istore, st_astore_n, st_astore, st_iconst, st_bipush, st_sipush, st_lconst, st_ldc, st_ldc_w, st_ldc2_w, st_getfield, st_putfieldI, st_putfieldR, st_getstatic, st_iaload, st_iastore, st_baload, st_bastore, st_laload, st_lastore, st_aaload, st_aastore, st_arraylength, st_iadd, st_isub, st_imul, st_iand, st_ior, st_ixor, st_ishl, st_ishr, st_idiv, st_irem, st_ineg, st_land, st_lor, st_lshl, st_i2l, st_l2i, st_i2b, st_i2s, st_i2c, st_lcmp, st_iinc, st_dupI, st_dupR, st_dup2, st_pop, st_goto, st_if_eq, st_icmp_eq, st_if_ne, st_icmp_ne, st_if_lt, st_icmp_lt, st_if_ge, st_icmp_ge, st_if_gt, st_icmp_gt, st_if_le, st_icmp_le, st_tsw, st_lsw, st_newarray, st_anewarray, st_new, st_invokevirtual, st_invokespecial, oin_ref, st_static, st_max, st_min, st_abs, st_copyi, st_copyl, st_ireturn, st_lreturn, st_areturn, st_return, rn_succ, inl_nil, inl_cons, rno_some, oi_some, ol_some, or_some, lk_cons, ins_nil, ins_cons, rm_nil, rm_int, rm_ref, rm_long, pop_0, pop_1, pop_2, pop_3, pop_4, pop_5, pop_6, la_nil, la_int, la_ref, la_long, cat_nil, cat_int, cat_ref, cat_long, call_succ, cont_some, cont_none, rcv_0, rcv_1, rcv_2, rcv_3, rcv_4, rcv_5, rcv_6, rcv_7, rcv_8, rcv_s, rf_some, ret_0, ret_10, ret_11, ret_ite, ite_0, sw_nil, sw_cons, ln_some, isk_some, al_some, ↓reduceIte, Nat.reduceAdd, Nat.reduceEqDiff, Nat.reduceLeDiff, Nat.reduceLT, Int32.reduceLT, Int32.reduceLE, Int32.reduceToNatClampNeg, Int32.reduceOfNat, Int32.reduceAdd, Int32.reduceSub, Int.reduceEq, Int.reduceNeg, Int.reduceLT, Int32.reduceOfInt, Int64.reduceOfInt, Bool.false_eq_true, true_and, and_true, eq_self, not_true_eq_false, not_false_eq_true, false_imp_iff, true_imp_iff, forall_const, or_true, true_or, ne_eq, Nat.zero_add, Nat.add_zero, Nat.le_refl, reduceCtorEq, Ft121, e123, l123, e124, l124, e125, l125, e126, l126, t123, t124, t125]
  clear e123 l123 e124 l124 e125 l125 e126 l126 t123 t124 t125
  refine ⟨by unfold pm_nf3; omega, rm_g (by decide) (by decide) (by decide) (by decide) (scl_r (by decide) scl_n) (scv_r (by decide) scv_n), rm_g (by decide) (by decide) (by decide) (by decide) (scl_r (by decide) scl_n) (scv_r (by decide) scv_n), rm_g (by decide) (by decide) (by decide) (by decide) (scl_r (by decide) scl_n) (scv_r (by decide) scv_n), h _ _ _ ?_⟩
  exact (mk_ar (F := 6) (by decide) (by decide) (show SH[125]? = some (1, 6) from rfl) (by decide) (by decide) (by decide) (mk_ar (F := 5) (by decide) (by decide) (show SH[124]? = some (1, 6) from rfl) (by decide) (by decide) (by decide) (mk_ar (F := 4) (by decide) (by decide) (show SH[123]? = some (1, 6) from rfl) (by decide) (by decide) (by decide) (mk_i (F := 3) (v := 0) (mk_i (F := 2) (v := 0) (mk_i (F := 1) (v := 0) (mk_i (F := 0) (v := 0) q)))))))
theorem w121_1 (q : BLD Ua Ub 0 122 126 ro io J M S I L R)
    (h : ∀ I L R, BLD Ua Ub 0 122 129 (pm_up (pm_up (pm_up (ro) 7 (some 126)) 8 (some 127)) 9 (some 128)) (io) J M S I L R → pm_wp X (d + 1) 121 72 [(0, .ref 122)] [] 6 54 (SH.take 129) I L R Q) : pm_wp X (d + 1) 121 48 [(0, .ref 122)] [] 3 18 (SH.take 126) I L R Q := by
  have e126 : (SH.take 126)[122]? = some (0, 8) := (sh_at (by decide)).trans rfl
  have l126 : (SH.take 126).length = 126 := sh_ln (by decide)
  have e127 : (SH.take 127)[122]? = some (0, 8) := (sh_at (by decide)).trans rfl
  have l127 : (SH.take 127).length = 127 := sh_ln (by decide)
  have e128 : (SH.take 128)[122]? = some (0, 8) := (sh_at (by decide)).trans rfl
  have l128 : (SH.take 128).length = 128 := sh_ln (by decide)
  have e129 : (SH.take 129)[122]? = some (0, 8) := (sh_at (by decide)).trans rfl
  have l129 : (SH.take 129).length = 129 := sh_ln (by decide)
  have t126 : SH.take 126 ++ [(1, 6)] = SH.take 127 := sh_tk rfl
  have t127 : SH.take 127 ++ [(1, 6)] = SH.take 128 := sh_tk rfl
  have t128 : SH.take 128 ++ [(1, 24)] = SH.take 129 := sh_tk rfl
  refine pm_gos (n := 60) (stops := [72]) ?_
  simp only [st_iload_n, st_iload, st_lload_n, st_aload_n, st_aload, st_istore_n, st_istore, st_astore_n, st_astore, st_iconst, st_bipush, st_sipush, st_lconst, st_ldc, st_ldc_w, st_ldc2_w, st_getfield, st_putfieldI, st_putfieldR, st_getstatic, st_iaload, st_iastore, st_baload, st_bastore, st_laload, st_lastore, st_aaload, st_aastore, st_arraylength, st_iadd, st_isub, st_imul, st_iand, st_ior, st_ixor, st_ishl, st_ishr, st_idiv, st_irem, st_ineg, st_land, st_lor, st_lshl, st_i2l, st_l2i, st_i2b, st_i2s, st_i2c, st_lcmp, st_iinc, st_dupI, st_dupR, st_dup2, st_pop, st_goto, st_if_eq, st_icmp_eq, st_if_ne, st_icmp_ne, st_if_lt, st_icmp_lt, st_if_ge, st_icmp_ge, st_if_gt, st_icmp_gt, st_if_le, st_icmp_le, st_tsw, st_lsw, st_newarray, st_anewarray, st_new, st_invokevirtual, st_invokespecial, oin_ref, st_static, st_max, st_min, st_abs, st_copyi, st_copyl, st_ireturn, st_lreturn, st_areturn, st_return, rn_succ, inl_nil, inl_cons, rno_some, oi_some, ol_some, or_some, lk_cons, ins_nil, ins_cons, rm_nil, rm_int, rm_ref, rm_long, pop_0, pop_1, pop_2, pop_3, pop_4, pop_5, pop_6, la_nil, la_int, la_ref, la_long, cat_nil, cat_int, cat_ref, cat_long, call_succ, cont_some, cont_none, rcv_0, rcv_1, rcv_2, rcv_3, rcv_4, rcv_5, rcv_6, rcv_7, rcv_8, rcv_s, rf_some, ret_0, ret_10, ret_11, ret_ite, ite_0, sw_nil, sw_cons, ln_some, isk_some, al_some, ↓reduceIte, Nat.reduceAdd, Nat.reduceEqDiff, Nat.reduceLeDiff, Nat.reduceLT, Int32.reduceLT, Int32.reduceLE, Int32.reduceToNatClampNeg, Int32.reduceOfNat, Int32.reduceAdd, Int32.reduceSub, Int.reduceEq, Int.reduceNeg, Int.reduceLT, Int32.reduceOfInt, Int64.reduceOfInt, Bool.false_eq_true, true_and, and_true, eq_self, not_true_eq_false, not_false_eq_true, false_imp_iff, true_imp_iff, forall_const, or_true, true_or, ne_eq, Nat.zero_add, Nat.add_zero, Nat.le_refl, reduceCtorEq, Ft121, e126, l126, e127, l127, e128, l128, e129, l129, t126, t127, t128]
  clear e126 l126 e127 l127 e128 l128 e129 l129 t126 t127 t128
  refine ⟨rm_g (by decide) (by decide) (by decide) (by decide) (scl_r (by decide) scl_n) (scv_r (by decide) scv_n), rm_g (by decide) (by decide) (by decide) (by decide) (scl_r (by decide) scl_n) (scv_r (by decide) scv_n), rm_g (by decide) (by decide) (by decide) (by decide) (scl_r (by decide) scl_n) (scv_r (by decide) scv_n), h _ _ _ ?_⟩
  exact (mk_ar (F := 9) (by decide) (by decide) (show SH[128]? = some (1, 24) from rfl) (by decide) (by decide) (by decide) (mk_ar (F := 8) (by decide) (by decide) (show SH[127]? = some (1, 6) from rfl) (by decide) (by decide) (by decide) (mk_ar (F := 7) (by decide) (by decide) (show SH[126]? = some (1, 6) from rfl) (by decide) (by decide) (by decide) q)))
theorem w121_2 (q : BLD Ua Ub 0 122 129 ro io J M S I L R)
    (h : ∀ I L R, BLD Ua Ub 0 122 132 (pm_up (pm_up (pm_up (ro) 15 (some 129)) 16 (some 130)) 17 (some 131)) (pm_up (pm_up (pm_up (pm_up (pm_up (io) 10 0) 11 (-1)) 12 0) 13 0) 14 0) J M S I L R → pm_wp X (d + 1) 121 121 [(0, .ref 122)] [] 9 220 (SH.take 132) I L R Q) : pm_wp X (d + 1) 121 72 [(0, .ref 122)] [] 6 54 (SH.take 129) I L R Q := by
  have e129 : (SH.take 129)[122]? = some (0, 8) := (sh_at (by decide)).trans rfl
  have l129 : (SH.take 129).length = 129 := sh_ln (by decide)
  have e130 : (SH.take 130)[122]? = some (0, 8) := (sh_at (by decide)).trans rfl
  have l130 : (SH.take 130).length = 130 := sh_ln (by decide)
  have e131 : (SH.take 131)[122]? = some (0, 8) := (sh_at (by decide)).trans rfl
  have l131 : (SH.take 131).length = 131 := sh_ln (by decide)
  have e132 : (SH.take 132)[122]? = some (0, 8) := (sh_at (by decide)).trans rfl
  have l132 : (SH.take 132).length = 132 := sh_ln (by decide)
  have t129 : SH.take 129 ++ [(1, 100)] = SH.take 130 := sh_tk rfl
  have t130 : SH.take 130 ++ [(1, 6)] = SH.take 131 := sh_tk rfl
  have t131 : SH.take 131 ++ [(1, 60)] = SH.take 132 := sh_tk rfl
  refine pm_gos (n := 60) (stops := [121]) ?_
  simp only [st_iload_n, st_iload, st_lload_n, st_aload_n, st_aload, st_istore_n, st_istore, st_astore_n, st_astore, st_iconst, st_bipush, st_sipush, st_lconst, st_ldc, st_ldc_w, st_ldc2_w, st_getfield, st_putfieldI, st_putfieldR, st_getstatic, st_iaload, st_iastore, st_baload, st_bastore, st_laload, st_lastore, st_aaload, st_aastore, st_arraylength, st_iadd, st_isub, st_imul, st_iand, st_ior, st_ixor, st_ishl, st_ishr, st_idiv, st_irem, st_ineg, st_land, st_lor, st_lshl, st_i2l, st_l2i, st_i2b, st_i2s, st_i2c, st_lcmp, st_iinc, st_dupI, st_dupR, st_dup2, st_pop, st_goto, st_if_eq, st_icmp_eq, st_if_ne, st_icmp_ne, st_if_lt, st_icmp_lt, st_if_ge, st_icmp_ge, st_if_gt, st_icmp_gt, st_if_le, st_icmp_le, st_tsw, st_lsw, st_newarray, st_anewarray, st_new, st_invokevirtual, st_invokespecial, oin_ref, st_static, st_max, st_min, st_abs, st_copyi, st_copyl, st_ireturn, st_lreturn, st_areturn, st_return, rn_succ, inl_nil, inl_cons, rno_some, oi_some, ol_some, or_some, lk_cons, ins_nil, ins_cons, rm_nil, rm_int, rm_ref, rm_long, pop_0, pop_1, pop_2, pop_3, pop_4, pop_5, pop_6, la_nil, la_int, la_ref, la_long, cat_nil, cat_int, cat_ref, cat_long, call_succ, cont_some, cont_none, rcv_0, rcv_1, rcv_2, rcv_3, rcv_4, rcv_5, rcv_6, rcv_7, rcv_8, rcv_s, rf_some, ret_0, ret_10, ret_11, ret_ite, ite_0, sw_nil, sw_cons, ln_some, isk_some, al_some, ↓reduceIte, Nat.reduceAdd, Nat.reduceEqDiff, Nat.reduceLeDiff, Nat.reduceLT, Int32.reduceLT, Int32.reduceLE, Int32.reduceToNatClampNeg, Int32.reduceOfNat, Int32.reduceAdd, Int32.reduceSub, Int.reduceEq, Int.reduceNeg, Int.reduceLT, Int32.reduceOfInt, Int64.reduceOfInt, Bool.false_eq_true, true_and, and_true, eq_self, not_true_eq_false, not_false_eq_true, false_imp_iff, true_imp_iff, forall_const, or_true, true_or, ne_eq, Nat.zero_add, Nat.add_zero, Nat.le_refl, reduceCtorEq, Ft121, e129, l129, e130, l130, e131, l131, e132, l132, t129, t130, t131]
  clear e129 l129 e130 l130 e131 l131 e132 l132 t129 t130 t131
  refine ⟨rm_g (by decide) (by decide) (by decide) (by decide) (scl_r (by decide) scl_n) (scv_r (by decide) scv_n), rm_g (by decide) (by decide) (by decide) (by decide) (scl_r (by decide) scl_n) (scv_r (by decide) scv_n), rm_g (by decide) (by decide) (by decide) (by decide) (scl_r (by decide) scl_n) (scv_r (by decide) scv_n), h _ _ _ ?_⟩
  exact (mk_ar (F := 17) (by decide) (by decide) (show SH[131]? = some (1, 60) from rfl) (by decide) (by decide) (by decide) (mk_ar (F := 16) (by decide) (by decide) (show SH[130]? = some (1, 6) from rfl) (by decide) (by decide) (by decide) (mk_ar (F := 15) (by decide) (by decide) (show SH[129]? = some (1, 100) from rfl) (by decide) (by decide) (by decide) (mk_i (F := 14) (v := 0) (mk_i (F := 13) (v := 0) (mk_i (F := 12) (v := 0) (mk_i (F := 11) (v := (-1)) (mk_i (F := 10) (v := 0) q))))))))
theorem w121_3 (q : BLD Ua Ub 0 122 132 ro io J M S I L R)
    (h : ∀ I L R, BLD Ua Ub 0 122 135 (pm_up (pm_up (pm_up (ro) 18 (some 132)) 19 (some 133)) 20 (some 134)) (io) J M S I L R → pm_wp X (d + 1) 121 145 [(0, .ref 122)] [] 12 400 (SH.take 135) I L R Q) : pm_wp X (d + 1) 121 121 [(0, .ref 122)] [] 9 220 (SH.take 132) I L R Q := by
  have e132 : (SH.take 132)[122]? = some (0, 8) := (sh_at (by decide)).trans rfl
  have l132 : (SH.take 132).length = 132 := sh_ln (by decide)
  have e133 : (SH.take 133)[122]? = some (0, 8) := (sh_at (by decide)).trans rfl
  have l133 : (SH.take 133).length = 133 := sh_ln (by decide)
  have e134 : (SH.take 134)[122]? = some (0, 8) := (sh_at (by decide)).trans rfl
  have l134 : (SH.take 134).length = 134 := sh_ln (by decide)
  have e135 : (SH.take 135)[122]? = some (0, 8) := (sh_at (by decide)).trans rfl
  have l135 : (SH.take 135).length = 135 := sh_ln (by decide)
  have t132 : SH.take 132 ++ [(1, 60)] = SH.take 133 := sh_tk rfl
  have t133 : SH.take 133 ++ [(1, 60)] = SH.take 134 := sh_tk rfl
  have t134 : SH.take 134 ++ [(1, 60)] = SH.take 135 := sh_tk rfl
  refine pm_gos (n := 60) (stops := [145]) ?_
  simp only [st_iload_n, st_iload, st_lload_n, st_aload_n, st_aload, st_istore_n, st_istore, st_astore_n, st_astore, st_iconst, st_bipush, st_sipush, st_lconst, st_ldc, st_ldc_w, st_ldc2_w, st_getfield, st_putfieldI, st_putfieldR, st_getstatic, st_iaload, st_iastore, st_baload, st_bastore, st_laload, st_lastore, st_aaload, st_aastore, st_arraylength, st_iadd, st_isub, st_imul, st_iand, st_ior, st_ixor, st_ishl, st_ishr, st_idiv, st_irem, st_ineg, st_land, st_lor, st_lshl, st_i2l, st_l2i, st_i2b, st_i2s, st_i2c, st_lcmp, st_iinc, st_dupI, st_dupR, st_dup2, st_pop, st_goto, st_if_eq, st_icmp_eq, st_if_ne, st_icmp_ne, st_if_lt, st_icmp_lt, st_if_ge, st_icmp_ge, st_if_gt, st_icmp_gt, st_if_le, st_icmp_le, st_tsw, st_lsw, st_newarray, st_anewarray, st_new, st_invokevirtual, st_invokespecial, oin_ref, st_static, st_max, st_min, st_abs, st_copyi, st_copyl, st_ireturn, st_lreturn, st_areturn, st_return, rn_succ, inl_nil, inl_cons, rno_some, oi_some, ol_some, or_some, lk_cons, ins_nil, ins_cons, rm_nil, rm_int, rm_ref, rm_long, pop_0, pop_1, pop_2, pop_3, pop_4, pop_5, pop_6, la_nil, la_int, la_ref, la_long, cat_nil, cat_int, cat_ref, cat_long, call_succ, cont_some, cont_none, rcv_0, rcv_1, rcv_2, rcv_3, rcv_4, rcv_5, rcv_6, rcv_7, rcv_8, rcv_s, rf_some, ret_0, ret_10, ret_11, ret_ite, ite_0, sw_nil, sw_cons, ln_some, isk_some, al_some, ↓reduceIte, Nat.reduceAdd, Nat.reduceEqDiff, Nat.reduceLeDiff, Nat.reduceLT, Int32.reduceLT, Int32.reduceLE, Int32.reduceToNatClampNeg, Int32.reduceOfNat, Int32.reduceAdd, Int32.reduceSub, Int.reduceEq, Int.reduceNeg, Int.reduceLT, Int32.reduceOfInt, Int64.reduceOfInt, Bool.false_eq_true, true_and, and_true, eq_self, not_true_eq_false, not_false_eq_true, false_imp_iff, true_imp_iff, forall_const, or_true, true_or, ne_eq, Nat.zero_add, Nat.add_zero, Nat.le_refl, reduceCtorEq, Ft121, e132, l132, e133, l133, e134, l134, e135, l135, t132, t133, t134]
  clear e132 l132 e133 l133 e134 l134 e135 l135 t132 t133 t134
  refine ⟨rm_g (by decide) (by decide) (by decide) (by decide) (scl_r (by decide) scl_n) (scv_r (by decide) scv_n), rm_g (by decide) (by decide) (by decide) (by decide) (scl_r (by decide) scl_n) (scv_r (by decide) scv_n), rm_g (by decide) (by decide) (by decide) (by decide) (scl_r (by decide) scl_n) (scv_r (by decide) scv_n), h _ _ _ ?_⟩
  exact (mk_ar (F := 20) (by decide) (by decide) (show SH[134]? = some (1, 60) from rfl) (by decide) (by decide) (by decide) (mk_ar (F := 19) (by decide) (by decide) (show SH[133]? = some (1, 60) from rfl) (by decide) (by decide) (by decide) (mk_ar (F := 18) (by decide) (by decide) (show SH[132]? = some (1, 60) from rfl) (by decide) (by decide) (by decide) q)))
theorem w121_4 (q : BLD Ua Ub 0 122 135 ro io J M S I L R)
    (h : ∀ I L R, BLD Ua Ub 0 122 137 (pm_up (pm_up (ro) 21 (some 135)) 22 (some 136)) (pm_up (pm_up (pm_up (io) 23 0) 24 0) 25 0) J M S I L R → pm_wp X (d + 1) 121 177 [(0, .ref 122)] [] 14 1101 (SH.take 137) I L R Q) : pm_wp X (d + 1) 121 145 [(0, .ref 122)] [] 12 400 (SH.take 135) I L R Q := by
  have e135 : (SH.take 135)[122]? = some (0, 8) := (sh_at (by decide)).trans rfl
  have l135 : (SH.take 135).length = 135 := sh_ln (by decide)
  have e136 : (SH.take 136)[122]? = some (0, 8) := (sh_at (by decide)).trans rfl
  have l136 : (SH.take 136).length = 136 := sh_ln (by decide)
  have e137 : (SH.take 137)[122]? = some (0, 8) := (sh_at (by decide)).trans rfl
  have l137 : (SH.take 137).length = 137 := sh_ln (by decide)
  have t135 : SH.take 135 ++ [(1, 600)] = SH.take 136 := sh_tk rfl
  have t136 : SH.take 136 ++ [(1, 101)] = SH.take 137 := sh_tk rfl
  refine pm_gos (n := 60) (stops := [177]) ?_
  simp only [st_iload_n, st_iload, st_lload_n, st_aload_n, st_aload, st_istore_n, st_istore, st_astore_n, st_astore, st_iconst, st_bipush, st_sipush, st_lconst, st_ldc, st_ldc_w, st_ldc2_w, st_getfield, st_putfieldI, st_putfieldR, st_getstatic, st_iaload, st_iastore, st_baload, st_bastore, st_laload, st_lastore, st_aaload, st_aastore, st_arraylength, st_iadd, st_isub, st_imul, st_iand, st_ior, st_ixor, st_ishl, st_ishr, st_idiv, st_irem, st_ineg, st_land, st_lor, st_lshl, st_i2l, st_l2i, st_i2b, st_i2s, st_i2c, st_lcmp, st_iinc, st_dupI, st_dupR, st_dup2, st_pop, st_goto, st_if_eq, st_icmp_eq, st_if_ne, st_icmp_ne, st_if_lt, st_icmp_lt, st_if_ge, st_icmp_ge, st_if_gt, st_icmp_gt, st_if_le, st_icmp_le, st_tsw, st_lsw, st_newarray, st_anewarray, st_new, st_invokevirtual, st_invokespecial, oin_ref, st_static, st_max, st_min, st_abs, st_copyi, st_copyl, st_ireturn, st_lreturn, st_areturn, st_return, rn_succ, inl_nil, inl_cons, rno_some, oi_some, ol_some, or_some, lk_cons, ins_nil, ins_cons, rm_nil, rm_int, rm_ref, rm_long, pop_0, pop_1, pop_2, pop_3, pop_4, pop_5, pop_6, la_nil, la_int, la_ref, la_long, cat_nil, cat_int, cat_ref, cat_long, call_succ, cont_some, cont_none, rcv_0, rcv_1, rcv_2, rcv_3, rcv_4, rcv_5, rcv_6, rcv_7, rcv_8, rcv_s, rf_some, ret_0, ret_10, ret_11, ret_ite, ite_0, sw_nil, sw_cons, ln_some, isk_some, al_some, ↓reduceIte, Nat.reduceAdd, Nat.reduceEqDiff, Nat.reduceLeDiff, Nat.reduceLT, Int32.reduceLT, Int32.reduceLE, Int32.reduceToNatClampNeg, Int32.reduceOfNat, Int32.reduceAdd, Int32.reduceSub, Int.reduceEq, Int.reduceNeg, Int.reduceLT, Int32.reduceOfInt, Int64.reduceOfInt, Bool.false_eq_true, true_and, and_true, eq_self, not_true_eq_false, not_false_eq_true, false_imp_iff, true_imp_iff, forall_const, or_true, true_or, ne_eq, Nat.zero_add, Nat.add_zero, Nat.le_refl, reduceCtorEq, Ft121, e135, l135, e136, l136, e137, l137, t135, t136]
  clear e135 l135 e136 l136 e137 l137 t135 t136
  refine ⟨rm_g (by decide) (by decide) (by decide) (by decide) (scl_r (by decide) scl_n) (scv_r (by decide) scv_n), rm_g (by decide) (by decide) (by decide) (by decide) (scl_r (by decide) scl_n) (scv_r (by decide) scv_n), h _ _ _ ?_⟩
  exact (mk_i (F := 25) (v := 0) (mk_i (F := 24) (v := 0) (mk_i (F := 23) (v := 0) (mk_ar (F := 22) (by decide) (by decide) (show SH[136]? = some (1, 101) from rfl) (by decide) (by decide) (by decide) (mk_ar (F := 21) (by decide) (by decide) (show SH[135]? = some (1, 600) from rfl) (by decide) (by decide) (by decide) q)))))
theorem w121_5 (q : BLD Ua Ub 0 122 137 ro io J M S I L R)
    (h : ∀ I L R, BLD Ua Ub 0 122 138 (pm_up (ro) 26 (some 137)) (io) J M S I L R → pm_wp X (d + 1) 121 317 [(0, .ref 122)] [] 15 1124 (SH.take 138) I L R Q) : pm_wp X (d + 1) 121 177 [(0, .ref 122)] [] 14 1101 (SH.take 137) I L R Q := by
  have e137 : (SH.take 137)[122]? = some (0, 8) := (sh_at (by decide)).trans rfl
  have l137 : (SH.take 137).length = 137 := sh_ln (by decide)
  have e138 : (SH.take 138)[122]? = some (0, 8) := (sh_at (by decide)).trans rfl
  have l138 : (SH.take 138).length = 138 := sh_ln (by decide)
  have t137 : SH.take 137 ++ [(1, 23)] = SH.take 138 := sh_tk rfl
  have g137 : (SH.take 138)[137]? = some (1, 23) := (sh_at (by decide)).trans rfl
  have v0 : vp_in 0 23 := by unfold vp_in; decide
  have v1 : vp_in 1 23 := by unfold vp_in; decide
  have v2 : vp_in 2 23 := by unfold vp_in; decide
  have v3 : vp_in 3 23 := by unfold vp_in; decide
  have v4 : vp_in 4 23 := by unfold vp_in; decide
  have v5 : vp_in 5 23 := by unfold vp_in; decide
  have v6 : vp_in 6 23 := by unfold vp_in; decide
  have v7 : vp_in 7 23 := by unfold vp_in; decide
  have v8 : vp_in 8 23 := by unfold vp_in; decide
  have v9 : vp_in 9 23 := by unfold vp_in; decide
  have v10 : vp_in 10 23 := by unfold vp_in; decide
  have v11 : vp_in 11 23 := by unfold vp_in; decide
  have v12 : vp_in 12 23 := by unfold vp_in; decide
  have v13 : vp_in 13 23 := by unfold vp_in; decide
  have v14 : vp_in 14 23 := by unfold vp_in; decide
  have v15 : vp_in 15 23 := by unfold vp_in; decide
  have v16 : vp_in 16 23 := by unfold vp_in; decide
  have v17 : vp_in 17 23 := by unfold vp_in; decide
  have v18 : vp_in 18 23 := by unfold vp_in; decide
  have v19 : vp_in 19 23 := by unfold vp_in; decide
  have v20 : vp_in 20 23 := by unfold vp_in; decide
  have v21 : vp_in 21 23 := by unfold vp_in; decide
  have v22 : vp_in 22 23 := by unfold vp_in; decide
  refine pm_gos (n := 150) (stops := [317]) ?_
  simp only [st_iload_n, st_iload, st_lload_n, st_aload_n, st_aload, st_istore_n, st_istore, st_astore_n, st_astore, st_iconst, st_bipush, st_sipush, st_lconst, st_ldc, st_ldc_w, st_ldc2_w, st_getfield, st_putfieldI, st_putfieldR, st_getstatic, st_iaload, st_iastore, st_baload, st_bastore, st_laload, st_lastore, st_aaload, st_aastore, st_arraylength, st_iadd, st_isub, st_imul, st_iand, st_ior, st_ixor, st_ishl, st_ishr, st_idiv, st_irem, st_ineg, st_land, st_lor, st_lshl, st_i2l, st_l2i, st_i2b, st_i2s, st_i2c, st_lcmp, st_iinc, st_dupI, st_dupR, st_dup2, st_pop, st_goto, st_if_eq, st_icmp_eq, st_if_ne, st_icmp_ne, st_if_lt, st_icmp_lt, st_if_ge, st_icmp_ge, st_if_gt, st_icmp_gt, st_if_le, st_icmp_le, st_tsw, st_lsw, st_newarray, st_anewarray, st_new, st_invokevirtual, st_invokespecial, oin_ref, st_static, st_max, st_min, st_abs, st_copyi, st_copyl, st_ireturn, st_lreturn, st_areturn, st_return, rn_succ, inl_nil, inl_cons, rno_some, oi_some, ol_some, or_some, lk_cons, ins_nil, ins_cons, rm_nil, rm_int, rm_ref, rm_long, pop_0, pop_1, pop_2, pop_3, pop_4, pop_5, pop_6, la_nil, la_int, la_ref, la_long, cat_nil, cat_int, cat_ref, cat_long, call_succ, cont_some, cont_none, rcv_0, rcv_1, rcv_2, rcv_3, rcv_4, rcv_5, rcv_6, rcv_7, rcv_8, rcv_s, rf_some, ret_0, ret_10, ret_11, ret_ite, ite_0, sw_nil, sw_cons, ln_some, isk_some, al_some, ↓reduceIte, Nat.reduceAdd, Nat.reduceEqDiff, Nat.reduceLeDiff, Nat.reduceLT, Int32.reduceLT, Int32.reduceLE, Int32.reduceToNatClampNeg, Int32.reduceOfNat, Int32.reduceAdd, Int32.reduceSub, Int.reduceEq, Int.reduceNeg, Int.reduceLT, Int32.reduceOfInt, Int64.reduceOfInt, Bool.false_eq_true, true_and, and_true, eq_self, not_true_eq_false, not_false_eq_true, false_imp_iff, true_imp_iff, forall_const, or_true, true_or, ne_eq, Nat.zero_add, Nat.add_zero, Nat.le_refl, reduceCtorEq, Ft121, e137, l137, e138, l138, t137, g137, up_s, up_u, v0, v1, v2, v3, v4, v5, v6, v7, v8, v9, v10, v11, v12, v13, v14, v15, v16, v17, v18, v19, v20, v21, v22]
  clear e137 l137 e138 l138 t137 g137 v0 v1 v2 v3 v4 v5 v6 v7 v8 v9 v10 v11 v12 v13 v14 v15 v16 v17 v18 v19 v20 v21 v22
  have a137 : pm_up (pm_up (pm_up (pm_up (pm_up (pm_up (pm_up (pm_up (pm_up (pm_up (pm_up (pm_up (pm_up (pm_up (pm_up (pm_up (pm_up (pm_up (pm_up (pm_up (pm_up (pm_up (pm_up (fun _ => 0) 0 108) 1 111) 2 117) 3 100) 4 101) 5 114) 6 115) 7 111) 8 102) 9 116) 10 101) 11 114) 12 115) 13 116) 14 101) 15 112) 16 119) 17 97) 18 107) 19 101) 20 112) 21 97) 22 121 = I0 137 := a_137
  have y137 : TT Ua Ub 137 = fun _ => none := y_137
  refine ⟨rm_g (by decide) (by decide) (by decide) (by decide) (scl_r (by decide) scl_n) (scv_r (by decide) scv_n), h _ _ _ ?_⟩
  exact (mk_ax (F := 26) (by decide) (by decide) a137 y137 q)
theorem w121_6 (q : BLD Ua Ub 0 122 138 ro io J M S I L R)
    (h : ∀ I L R, BLD Ua Ub 0 122 141 (pm_up (pm_up (pm_up (ro) 27 (some 138)) 28 (some 139)) 29 (some 140)) (io) J M S I L R → pm_wp X (d + 1) 121 341 [(0, .ref 122)] [] 18 1236 (SH.take 141) I L R Q) : pm_wp X (d + 1) 121 317 [(0, .ref 122)] [] 15 1124 (SH.take 138) I L R Q := by
  have e138 : (SH.take 138)[122]? = some (0, 8) := (sh_at (by decide)).trans rfl
  have l138 : (SH.take 138).length = 138 := sh_ln (by decide)
  have e139 : (SH.take 139)[122]? = some (0, 8) := (sh_at (by decide)).trans rfl
  have l139 : (SH.take 139).length = 139 := sh_ln (by decide)
  have e140 : (SH.take 140)[122]? = some (0, 8) := (sh_at (by decide)).trans rfl
  have l140 : (SH.take 140).length = 140 := sh_ln (by decide)
  have e141 : (SH.take 141)[122]? = some (0, 8) := (sh_at (by decide)).trans rfl
  have l141 : (SH.take 141).length = 141 := sh_ln (by decide)
  have t138 : SH.take 138 ++ [(2, 100)] = SH.take 139 := sh_tk rfl
  have t139 : SH.take 139 ++ [(1, 6)] = SH.take 140 := sh_tk rfl
  have t140 : SH.take 140 ++ [(1, 6)] = SH.take 141 := sh_tk rfl
  refine pm_gos (n := 60) (stops := [341]) ?_
  simp only [st_iload_n, st_iload, st_lload_n, st_aload_n, st_aload, st_istore_n, st_istore, st_astore_n, st_astore, st_iconst, st_bipush, st_sipush, st_lconst, st_ldc, st_ldc_w, st_ldc2_w, st_getfield, st_putfieldI, st_putfieldR, st_getstatic, st_iaload, st_iastore, st_baload, st_bastore, st_laload, st_lastore, st_aaload, st_aastore, st_arraylength, st_iadd, st_isub, st_imul, st_iand, st_ior, st_ixor, st_ishl, st_ishr, st_idiv, st_irem, st_ineg, st_land, st_lor, st_lshl, st_i2l, st_l2i, st_i2b, st_i2s, st_i2c, st_lcmp, st_iinc, st_dupI, st_dupR, st_dup2, st_pop, st_goto, st_if_eq, st_icmp_eq, st_if_ne, st_icmp_ne, st_if_lt, st_icmp_lt, st_if_ge, st_icmp_ge, st_if_gt, st_icmp_gt, st_if_le, st_icmp_le, st_tsw, st_lsw, st_newarray, st_anewarray, st_new, st_invokevirtual, st_invokespecial, oin_ref, st_static, st_max, st_min, st_abs, st_copyi, st_copyl, st_ireturn, st_lreturn, st_areturn, st_return, rn_succ, inl_nil, inl_cons, rno_some, oi_some, ol_some, or_some, lk_cons, ins_nil, ins_cons, rm_nil, rm_int, rm_ref, rm_long, pop_0, pop_1, pop_2, pop_3, pop_4, pop_5, pop_6, la_nil, la_int, la_ref, la_long, cat_nil, cat_int, cat_ref, cat_long, call_succ, cont_some, cont_none, rcv_0, rcv_1, rcv_2, rcv_3, rcv_4, rcv_5, rcv_6, rcv_7, rcv_8, rcv_s, rf_some, ret_0, ret_10, ret_11, ret_ite, ite_0, sw_nil, sw_cons, ln_some, isk_some, al_some, ↓reduceIte, Nat.reduceAdd, Nat.reduceEqDiff, Nat.reduceLeDiff, Nat.reduceLT, Int32.reduceLT, Int32.reduceLE, Int32.reduceToNatClampNeg, Int32.reduceOfNat, Int32.reduceAdd, Int32.reduceSub, Int.reduceEq, Int.reduceNeg, Int.reduceLT, Int32.reduceOfInt, Int64.reduceOfInt, Bool.false_eq_true, true_and, and_true, eq_self, not_true_eq_false, not_false_eq_true, false_imp_iff, true_imp_iff, forall_const, or_true, true_or, ne_eq, Nat.zero_add, Nat.add_zero, Nat.le_refl, reduceCtorEq, Ft121, e138, l138, e139, l139, e140, l140, e141, l141, t138, t139, t140]
  clear e138 l138 e139 l139 e140 l140 e141 l141 t138 t139 t140
  refine ⟨rm_g (by decide) (by decide) (by decide) (by decide) (scl_r (by decide) scl_n) (scv_r (by decide) scv_n), rm_g (by decide) (by decide) (by decide) (by decide) (scl_r (by decide) scl_n) (scv_r (by decide) scv_n), rm_g (by decide) (by decide) (by decide) (by decide) (scl_r (by decide) scl_n) (scv_r (by decide) scv_n), h _ _ _ ?_⟩
  exact (mk_ar (F := 29) (by decide) (by decide) (show SH[140]? = some (1, 6) from rfl) (by decide) (by decide) (by decide) (mk_ar (F := 28) (by decide) (by decide) (show SH[139]? = some (1, 6) from rfl) (by decide) (by decide) (by decide) (mk_ar (F := 27) (by decide) (by decide) (show SH[138]? = some (2, 100) from rfl) (by decide) (by decide) (by decide) q)))
theorem w121_7 (q : BLD Ua Ub 0 122 141 ro io J M S I L R)
    (h : ∀ I L R, BLD Ua Ub 0 122 144 (pm_up (pm_up (pm_up (ro) 33 (some 141)) 34 (some 142)) 35 (some 143)) (pm_up (pm_up (pm_up (io) 30 0) 31 0) 32 0) J M S I L R → pm_wp X (d + 1) 121 380 [(0, .ref 122)] [] 21 1254 (SH.take 144) I L R Q) : pm_wp X (d + 1) 121 341 [(0, .ref 122)] [] 18 1236 (SH.take 141) I L R Q := by
  have e141 : (SH.take 141)[122]? = some (0, 8) := (sh_at (by decide)).trans rfl
  have l141 : (SH.take 141).length = 141 := sh_ln (by decide)
  have e142 : (SH.take 142)[122]? = some (0, 8) := (sh_at (by decide)).trans rfl
  have l142 : (SH.take 142).length = 142 := sh_ln (by decide)
  have e143 : (SH.take 143)[122]? = some (0, 8) := (sh_at (by decide)).trans rfl
  have l143 : (SH.take 143).length = 143 := sh_ln (by decide)
  have e144 : (SH.take 144)[122]? = some (0, 8) := (sh_at (by decide)).trans rfl
  have l144 : (SH.take 144).length = 144 := sh_ln (by decide)
  have t141 : SH.take 141 ++ [(1, 6)] = SH.take 142 := sh_tk rfl
  have t142 : SH.take 142 ++ [(1, 6)] = SH.take 143 := sh_tk rfl
  have t143 : SH.take 143 ++ [(1, 6)] = SH.take 144 := sh_tk rfl
  refine pm_gos (n := 60) (stops := [380]) ?_
  simp only [st_iload_n, st_iload, st_lload_n, st_aload_n, st_aload, st_istore_n, st_istore, st_astore_n, st_astore, st_iconst, st_bipush, st_sipush, st_lconst, st_ldc, st_ldc_w, st_ldc2_w, st_getfield, st_putfieldI, st_putfieldR, st_getstatic, st_iaload, st_iastore, st_baload, st_bastore, st_laload, st_lastore, st_aaload, st_aastore, st_arraylength, st_iadd, st_isub, st_imul, st_iand, st_ior, st_ixor, st_ishl, st_ishr, st_idiv, st_irem, st_ineg, st_land, st_lor, st_lshl, st_i2l, st_l2i, st_i2b, st_i2s, st_i2c, st_lcmp, st_iinc, st_dupI, st_dupR, st_dup2, st_pop, st_goto, st_if_eq, st_icmp_eq, st_if_ne, st_icmp_ne, st_if_lt, st_icmp_lt, st_if_ge, st_icmp_ge, st_if_gt, st_icmp_gt, st_if_le, st_icmp_le, st_tsw, st_lsw, st_newarray, st_anewarray, st_new, st_invokevirtual, st_invokespecial, oin_ref, st_static, st_max, st_min, st_abs, st_copyi, st_copyl, st_ireturn, st_lreturn, st_areturn, st_return, rn_succ, inl_nil, inl_cons, rno_some, oi_some, ol_some, or_some, lk_cons, ins_nil, ins_cons, rm_nil, rm_int, rm_ref, rm_long, pop_0, pop_1, pop_2, pop_3, pop_4, pop_5, pop_6, la_nil, la_int, la_ref, la_long, cat_nil, cat_int, cat_ref, cat_long, call_succ, cont_some, cont_none, rcv_0, rcv_1, rcv_2, rcv_3, rcv_4, rcv_5, rcv_6, rcv_7, rcv_8, rcv_s, rf_some, ret_0, ret_10, ret_11, ret_ite, ite_0, sw_nil, sw_cons, ln_some, isk_some, al_some, ↓reduceIte, Nat.reduceAdd, Nat.reduceEqDiff, Nat.reduceLeDiff, Nat.reduceLT, Int32.reduceLT, Int32.reduceLE, Int32.reduceToNatClampNeg, Int32.reduceOfNat, Int32.reduceAdd, Int32.reduceSub, Int.reduceEq, Int.reduceNeg, Int.reduceLT, Int32.reduceOfInt, Int64.reduceOfInt, Bool.false_eq_true, true_and, and_true, eq_self, not_true_eq_false, not_false_eq_true, false_imp_iff, true_imp_iff, forall_const, or_true, true_or, ne_eq, Nat.zero_add, Nat.add_zero, Nat.le_refl, reduceCtorEq, Ft121, e141, l141, e142, l142, e143, l143, e144, l144, t141, t142, t143]
  clear e141 l141 e142 l142 e143 l143 e144 l144 t141 t142 t143
  refine ⟨rm_g (by decide) (by decide) (by decide) (by decide) (scl_r (by decide) scl_n) (scv_r (by decide) scv_n), rm_g (by decide) (by decide) (by decide) (by decide) (scl_r (by decide) scl_n) (scv_r (by decide) scv_n), rm_g (by decide) (by decide) (by decide) (by decide) (scl_r (by decide) scl_n) (scv_r (by decide) scv_n), h _ _ _ ?_⟩
  exact (mk_ar (F := 35) (by decide) (by decide) (show SH[143]? = some (1, 6) from rfl) (by decide) (by decide) (by decide) (mk_ar (F := 34) (by decide) (by decide) (show SH[142]? = some (1, 6) from rfl) (by decide) (by decide) (by decide) (mk_ar (F := 33) (by decide) (by decide) (show SH[141]? = some (1, 6) from rfl) (by decide) (by decide) (by decide) (mk_i (F := 32) (v := 0) (mk_i (F := 31) (v := 0) (mk_i (F := 30) (v := 0) q))))))
theorem w121_8 (q : BLD Ua Ub 0 122 144 ro io J M S I L R)
    (h : ∀ I L R, BLD Ua Ub 0 122 147 (pm_up (pm_up (pm_up (ro) 36 (some 144)) 38 (some 145)) 39 (some 146)) (pm_up (io) 37 0) J M S I L R → pm_wp X (d + 1) 121 407 [(0, .ref 122)] [] 24 1270 (SH.take 147) I L R Q) : pm_wp X (d + 1) 121 380 [(0, .ref 122)] [] 21 1254 (SH.take 144) I L R Q := by
  have e144 : (SH.take 144)[122]? = some (0, 8) := (sh_at (by decide)).trans rfl
  have l144 : (SH.take 144).length = 144 := sh_ln (by decide)
  have e145 : (SH.take 145)[122]? = some (0, 8) := (sh_at (by decide)).trans rfl
  have l145 : (SH.take 145).length = 145 := sh_ln (by decide)
  have e146 : (SH.take 146)[122]? = some (0, 8) := (sh_at (by decide)).trans rfl
  have l146 : (SH.take 146).length = 146 := sh_ln (by decide)
  have e147 : (SH.take 147)[122]? = some (0, 8) := (sh_at (by decide)).trans rfl
  have l147 : (SH.take 147).length = 147 := sh_ln (by decide)
  have t144 : SH.take 144 ++ [(1, 6)] = SH.take 145 := sh_tk rfl
  have t145 : SH.take 145 ++ [(1, 5)] = SH.take 146 := sh_tk rfl
  have t146 : SH.take 146 ++ [(1, 5)] = SH.take 147 := sh_tk rfl
  refine pm_gos (n := 60) (stops := [407]) ?_
  simp only [st_iload_n, st_iload, st_lload_n, st_aload_n, st_aload, st_istore_n, st_istore, st_astore_n, st_astore, st_iconst, st_bipush, st_sipush, st_lconst, st_ldc, st_ldc_w, st_ldc2_w, st_getfield, st_putfieldI, st_putfieldR, st_getstatic, st_iaload, st_iastore, st_baload, st_bastore, st_laload, st_lastore, st_aaload, st_aastore, st_arraylength, st_iadd, st_isub, st_imul, st_iand, st_ior, st_ixor, st_ishl, st_ishr, st_idiv, st_irem, st_ineg, st_land, st_lor, st_lshl, st_i2l, st_l2i, st_i2b, st_i2s, st_i2c, st_lcmp, st_iinc, st_dupI, st_dupR, st_dup2, st_pop, st_goto, st_if_eq, st_icmp_eq, st_if_ne, st_icmp_ne, st_if_lt, st_icmp_lt, st_if_ge, st_icmp_ge, st_if_gt, st_icmp_gt, st_if_le, st_icmp_le, st_tsw, st_lsw, st_newarray, st_anewarray, st_new, st_invokevirtual, st_invokespecial, oin_ref, st_static, st_max, st_min, st_abs, st_copyi, st_copyl, st_ireturn, st_lreturn, st_areturn, st_return, rn_succ, inl_nil, inl_cons, rno_some, oi_some, ol_some, or_some, lk_cons, ins_nil, ins_cons, rm_nil, rm_int, rm_ref, rm_long, pop_0, pop_1, pop_2, pop_3, pop_4, pop_5, pop_6, la_nil, la_int, la_ref, la_long, cat_nil, cat_int, cat_ref, cat_long, call_succ, cont_some, cont_none, rcv_0, rcv_1, rcv_2, rcv_3, rcv_4, rcv_5, rcv_6, rcv_7, rcv_8, rcv_s, rf_some, ret_0, ret_10, ret_11, ret_ite, ite_0, sw_nil, sw_cons, ln_some, isk_some, al_some, ↓reduceIte, Nat.reduceAdd, Nat.reduceEqDiff, Nat.reduceLeDiff, Nat.reduceLT, Int32.reduceLT, Int32.reduceLE, Int32.reduceToNatClampNeg, Int32.reduceOfNat, Int32.reduceAdd, Int32.reduceSub, Int.reduceEq, Int.reduceNeg, Int.reduceLT, Int32.reduceOfInt, Int64.reduceOfInt, Bool.false_eq_true, true_and, and_true, eq_self, not_true_eq_false, not_false_eq_true, false_imp_iff, true_imp_iff, forall_const, or_true, true_or, ne_eq, Nat.zero_add, Nat.add_zero, Nat.le_refl, reduceCtorEq, Ft121, e144, l144, e145, l145, e146, l146, e147, l147, t144, t145, t146]
  clear e144 l144 e145 l145 e146 l146 e147 l147 t144 t145 t146
  refine ⟨rm_g (by decide) (by decide) (by decide) (by decide) (scl_r (by decide) scl_n) (scv_r (by decide) scv_n), rm_g (by decide) (by decide) (by decide) (by decide) (scl_r (by decide) scl_n) (scv_r (by decide) scv_n), rm_g (by decide) (by decide) (by decide) (by decide) (scl_r (by decide) scl_n) (scv_r (by decide) scv_n), h _ _ _ ?_⟩
  exact (mk_ar (F := 39) (by decide) (by decide) (show SH[146]? = some (1, 5) from rfl) (by decide) (by decide) (by decide) (mk_ar (F := 38) (by decide) (by decide) (show SH[145]? = some (1, 5) from rfl) (by decide) (by decide) (by decide) (mk_i (F := 37) (v := 0) (mk_ar (F := 36) (by decide) (by decide) (show SH[144]? = some (1, 6) from rfl) (by decide) (by decide) (by decide) q))))
theorem w121_9 (q : BLD Ua Ub 0 122 147 ro io J M S I L R)
    (h : ∀ I L R, BLD Ua Ub 0 122 150 (pm_up (pm_up (pm_up (ro) 40 (some 147)) 43 (some 148)) 44 (some 149)) (pm_up (pm_up (io) 41 0) 42 0) J M S I L R → pm_wp X (d + 1) 121 440 [(0, .ref 122)] [] 27 1295 (SH.take 150) I L R Q) : pm_wp X (d + 1) 121 407 [(0, .ref 122)] [] 24 1270 (SH.take 147) I L R Q := by
  have e147 : (SH.take 147)[122]? = some (0, 8) := (sh_at (by decide)).trans rfl
  have l147 : (SH.take 147).length = 147 := sh_ln (by decide)
  have e148 : (SH.take 148)[122]? = some (0, 8) := (sh_at (by decide)).trans rfl
  have l148 : (SH.take 148).length = 148 := sh_ln (by decide)
  have e149 : (SH.take 149)[122]? = some (0, 8) := (sh_at (by decide)).trans rfl
  have l149 : (SH.take 149).length = 149 := sh_ln (by decide)
  have e150 : (SH.take 150)[122]? = some (0, 8) := (sh_at (by decide)).trans rfl
  have l150 : (SH.take 150).length = 150 := sh_ln (by decide)
  have t147 : SH.take 147 ++ [(1, 5)] = SH.take 148 := sh_tk rfl
  have t148 : SH.take 148 ++ [(1, 10)] = SH.take 149 := sh_tk rfl
  have t149 : SH.take 149 ++ [(1, 10)] = SH.take 150 := sh_tk rfl
  refine pm_gos (n := 60) (stops := [440]) ?_
  simp only [st_iload_n, st_iload, st_lload_n, st_aload_n, st_aload, st_istore_n, st_istore, st_astore_n, st_astore, st_iconst, st_bipush, st_sipush, st_lconst, st_ldc, st_ldc_w, st_ldc2_w, st_getfield, st_putfieldI, st_putfieldR, st_getstatic, st_iaload, st_iastore, st_baload, st_bastore, st_laload, st_lastore, st_aaload, st_aastore, st_arraylength, st_iadd, st_isub, st_imul, st_iand, st_ior, st_ixor, st_ishl, st_ishr, st_idiv, st_irem, st_ineg, st_land, st_lor, st_lshl, st_i2l, st_l2i, st_i2b, st_i2s, st_i2c, st_lcmp, st_iinc, st_dupI, st_dupR, st_dup2, st_pop, st_goto, st_if_eq, st_icmp_eq, st_if_ne, st_icmp_ne, st_if_lt, st_icmp_lt, st_if_ge, st_icmp_ge, st_if_gt, st_icmp_gt, st_if_le, st_icmp_le, st_tsw, st_lsw, st_newarray, st_anewarray, st_new, st_invokevirtual, st_invokespecial, oin_ref, st_static, st_max, st_min, st_abs, st_copyi, st_copyl, st_ireturn, st_lreturn, st_areturn, st_return, rn_succ, inl_nil, inl_cons, rno_some, oi_some, ol_some, or_some, lk_cons, ins_nil, ins_cons, rm_nil, rm_int, rm_ref, rm_long, pop_0, pop_1, pop_2, pop_3, pop_4, pop_5, pop_6, la_nil, la_int, la_ref, la_long, cat_nil, cat_int, cat_ref, cat_long, call_succ, cont_some, cont_none, rcv_0, rcv_1, rcv_2, rcv_3, rcv_4, rcv_5, rcv_6, rcv_7, rcv_8, rcv_s, rf_some, ret_0, ret_10, ret_11, ret_ite, ite_0, sw_nil, sw_cons, ln_some, isk_some, al_some, ↓reduceIte, Nat.reduceAdd, Nat.reduceEqDiff, Nat.reduceLeDiff, Nat.reduceLT, Int32.reduceLT, Int32.reduceLE, Int32.reduceToNatClampNeg, Int32.reduceOfNat, Int32.reduceAdd, Int32.reduceSub, Int.reduceEq, Int.reduceNeg, Int.reduceLT, Int32.reduceOfInt, Int64.reduceOfInt, Bool.false_eq_true, true_and, and_true, eq_self, not_true_eq_false, not_false_eq_true, false_imp_iff, true_imp_iff, forall_const, or_true, true_or, ne_eq, Nat.zero_add, Nat.add_zero, Nat.le_refl, reduceCtorEq, Ft121, e147, l147, e148, l148, e149, l149, e150, l150, t147, t148, t149]
  clear e147 l147 e148 l148 e149 l149 e150 l150 t147 t148 t149
  refine ⟨rm_g (by decide) (by decide) (by decide) (by decide) (scl_r (by decide) scl_n) (scv_r (by decide) scv_n), rm_g (by decide) (by decide) (by decide) (by decide) (scl_r (by decide) scl_n) (scv_r (by decide) scv_n), rm_g (by decide) (by decide) (by decide) (by decide) (scl_r (by decide) scl_n) (scv_r (by decide) scv_n), h _ _ _ ?_⟩
  exact (mk_ar (F := 44) (by decide) (by decide) (show SH[149]? = some (1, 10) from rfl) (by decide) (by decide) (by decide) (mk_ar (F := 43) (by decide) (by decide) (show SH[148]? = some (1, 10) from rfl) (by decide) (by decide) (by decide) (mk_i (F := 42) (v := 0) (mk_i (F := 41) (v := 0) (mk_ar (F := 40) (by decide) (by decide) (show SH[147]? = some (1, 5) from rfl) (by decide) (by decide) (by decide) q)))))
theorem w121_10 (q : BLD Ua Ub 0 122 150 ro io J M S I L R)
    (h : ∀ I L R, BLD Ua Ub 0 122 152 (pm_up (pm_up (ro) 45 (some 150)) 46 (some 151)) (pm_up (pm_up (pm_up (pm_up (pm_up (pm_up (pm_up (io) 47 0) 48 (-1)) 49 0) 50 0) 51 0) 52 0) 53 0) J M S I L R → pm_wp X (d + 1) 121 491 [(0, .ref 122)] [] 29 1311 (SH.take 152) I L R Q) : pm_wp X (d + 1) 121 440 [(0, .ref 122)] [] 27 1295 (SH.take 150) I L R Q := by
  have e150 : (SH.take 150)[122]? = some (0, 8) := (sh_at (by decide)).trans rfl
  have l150 : (SH.take 150).length = 150 := sh_ln (by decide)
  have e151 : (SH.take 151)[122]? = some (0, 8) := (sh_at (by decide)).trans rfl
  have l151 : (SH.take 151).length = 151 := sh_ln (by decide)
  have e152 : (SH.take 152)[122]? = some (0, 8) := (sh_at (by decide)).trans rfl
  have l152 : (SH.take 152).length = 152 := sh_ln (by decide)
  have t150 : SH.take 150 ++ [(1, 8)] = SH.take 151 := sh_tk rfl
  have t151 : SH.take 151 ++ [(1, 8)] = SH.take 152 := sh_tk rfl
  refine pm_gos (n := 60) (stops := [491]) ?_
  simp only [st_iload_n, st_iload, st_lload_n, st_aload_n, st_aload, st_istore_n, st_istore, st_astore_n, st_astore, st_iconst, st_bipush, st_sipush, st_lconst, st_ldc, st_ldc_w, st_ldc2_w, st_getfield, st_putfieldI, st_putfieldR, st_getstatic, st_iaload, st_iastore, st_baload, st_bastore, st_laload, st_lastore, st_aaload, st_aastore, st_arraylength, st_iadd, st_isub, st_imul, st_iand, st_ior, st_ixor, st_ishl, st_ishr, st_idiv, st_irem, st_ineg, st_land, st_lor, st_lshl, st_i2l, st_l2i, st_i2b, st_i2s, st_i2c, st_lcmp, st_iinc, st_dupI, st_dupR, st_dup2, st_pop, st_goto, st_if_eq, st_icmp_eq, st_if_ne, st_icmp_ne, st_if_lt, st_icmp_lt, st_if_ge, st_icmp_ge, st_if_gt, st_icmp_gt, st_if_le, st_icmp_le, st_tsw, st_lsw, st_newarray, st_anewarray, st_new, st_invokevirtual, st_invokespecial, oin_ref, st_static, st_max, st_min, st_abs, st_copyi, st_copyl, st_ireturn, st_lreturn, st_areturn, st_return, rn_succ, inl_nil, inl_cons, rno_some, oi_some, ol_some, or_some, lk_cons, ins_nil, ins_cons, rm_nil, rm_int, rm_ref, rm_long, pop_0, pop_1, pop_2, pop_3, pop_4, pop_5, pop_6, la_nil, la_int, la_ref, la_long, cat_nil, cat_int, cat_ref, cat_long, call_succ, cont_some, cont_none, rcv_0, rcv_1, rcv_2, rcv_3, rcv_4, rcv_5, rcv_6, rcv_7, rcv_8, rcv_s, rf_some, ret_0, ret_10, ret_11, ret_ite, ite_0, sw_nil, sw_cons, ln_some, isk_some, al_some, ↓reduceIte, Nat.reduceAdd, Nat.reduceEqDiff, Nat.reduceLeDiff, Nat.reduceLT, Int32.reduceLT, Int32.reduceLE, Int32.reduceToNatClampNeg, Int32.reduceOfNat, Int32.reduceAdd, Int32.reduceSub, Int.reduceEq, Int.reduceNeg, Int.reduceLT, Int32.reduceOfInt, Int64.reduceOfInt, Bool.false_eq_true, true_and, and_true, eq_self, not_true_eq_false, not_false_eq_true, false_imp_iff, true_imp_iff, forall_const, or_true, true_or, ne_eq, Nat.zero_add, Nat.add_zero, Nat.le_refl, reduceCtorEq, Ft121, e150, l150, e151, l151, e152, l152, t150, t151]
  clear e150 l150 e151 l151 e152 l152 t150 t151
  refine ⟨rm_g (by decide) (by decide) (by decide) (by decide) (scl_r (by decide) scl_n) (scv_r (by decide) scv_n), rm_g (by decide) (by decide) (by decide) (by decide) (scl_r (by decide) scl_n) (scv_r (by decide) scv_n), h _ _ _ ?_⟩
  exact (mk_i (F := 53) (v := 0) (mk_i (F := 52) (v := 0) (mk_i (F := 51) (v := 0) (mk_i (F := 50) (v := 0) (mk_i (F := 49) (v := 0) (mk_i (F := 48) (v := (-1)) (mk_i (F := 47) (v := 0) (mk_ar (F := 46) (by decide) (by decide) (show SH[151]? = some (1, 8) from rfl) (by decide) (by decide) (by decide) (mk_ar (F := 45) (by decide) (by decide) (show SH[150]? = some (1, 8) from rfl) (by decide) (by decide) (by decide) q)))))))))
theorem w121_11 (q : BLD Ua Ub 0 122 152 ro io J M S I L R)
    (h : ∀ I L R, BLD Ua Ub 0 122 155 (pm_up (pm_up (pm_up (ro) 56 (some 152)) 57 (some 153)) 58 (some 154)) (pm_up (pm_up (io) 54 0) 55 0) J M S I L R → pm_wp X (d + 1) 121 525 [(0, .ref 122)] [] 32 1329 (SH.take 155) I L R Q) : pm_wp X (d + 1) 121 491 [(0, .ref 122)] [] 29 1311 (SH.take 152) I L R Q := by
  have e152 : (SH.take 152)[122]? = some (0, 8) := (sh_at (by decide)).trans rfl
  have l152 : (SH.take 152).length = 152 := sh_ln (by decide)
  have e153 : (SH.take 153)[122]? = some (0, 8) := (sh_at (by decide)).trans rfl
  have l153 : (SH.take 153).length = 153 := sh_ln (by decide)
  have e154 : (SH.take 154)[122]? = some (0, 8) := (sh_at (by decide)).trans rfl
  have l154 : (SH.take 154).length = 154 := sh_ln (by decide)
  have e155 : (SH.take 155)[122]? = some (0, 8) := (sh_at (by decide)).trans rfl
  have l155 : (SH.take 155).length = 155 := sh_ln (by decide)
  have t152 : SH.take 152 ++ [(1, 6)] = SH.take 153 := sh_tk rfl
  have t153 : SH.take 153 ++ [(1, 6)] = SH.take 154 := sh_tk rfl
  have t154 : SH.take 154 ++ [(1, 6)] = SH.take 155 := sh_tk rfl
  refine pm_gos (n := 60) (stops := [525]) ?_
  simp only [st_iload_n, st_iload, st_lload_n, st_aload_n, st_aload, st_istore_n, st_istore, st_astore_n, st_astore, st_iconst, st_bipush, st_sipush, st_lconst, st_ldc, st_ldc_w, st_ldc2_w, st_getfield, st_putfieldI, st_putfieldR, st_getstatic, st_iaload, st_iastore, st_baload, st_bastore, st_laload, st_lastore, st_aaload, st_aastore, st_arraylength, st_iadd, st_isub, st_imul, st_iand, st_ior, st_ixor, st_ishl, st_ishr, st_idiv, st_irem, st_ineg, st_land, st_lor, st_lshl, st_i2l, st_l2i, st_i2b, st_i2s, st_i2c, st_lcmp, st_iinc, st_dupI, st_dupR, st_dup2, st_pop, st_goto, st_if_eq, st_icmp_eq, st_if_ne, st_icmp_ne, st_if_lt, st_icmp_lt, st_if_ge, st_icmp_ge, st_if_gt, st_icmp_gt, st_if_le, st_icmp_le, st_tsw, st_lsw, st_newarray, st_anewarray, st_new, st_invokevirtual, st_invokespecial, oin_ref, st_static, st_max, st_min, st_abs, st_copyi, st_copyl, st_ireturn, st_lreturn, st_areturn, st_return, rn_succ, inl_nil, inl_cons, rno_some, oi_some, ol_some, or_some, lk_cons, ins_nil, ins_cons, rm_nil, rm_int, rm_ref, rm_long, pop_0, pop_1, pop_2, pop_3, pop_4, pop_5, pop_6, la_nil, la_int, la_ref, la_long, cat_nil, cat_int, cat_ref, cat_long, call_succ, cont_some, cont_none, rcv_0, rcv_1, rcv_2, rcv_3, rcv_4, rcv_5, rcv_6, rcv_7, rcv_8, rcv_s, rf_some, ret_0, ret_10, ret_11, ret_ite, ite_0, sw_nil, sw_cons, ln_some, isk_some, al_some, ↓reduceIte, Nat.reduceAdd, Nat.reduceEqDiff, Nat.reduceLeDiff, Nat.reduceLT, Int32.reduceLT, Int32.reduceLE, Int32.reduceToNatClampNeg, Int32.reduceOfNat, Int32.reduceAdd, Int32.reduceSub, Int.reduceEq, Int.reduceNeg, Int.reduceLT, Int32.reduceOfInt, Int64.reduceOfInt, Bool.false_eq_true, true_and, and_true, eq_self, not_true_eq_false, not_false_eq_true, false_imp_iff, true_imp_iff, forall_const, or_true, true_or, ne_eq, Nat.zero_add, Nat.add_zero, Nat.le_refl, reduceCtorEq, Ft121, e152, l152, e153, l153, e154, l154, e155, l155, t152, t153, t154]
  clear e152 l152 e153 l153 e154 l154 e155 l155 t152 t153 t154
  refine ⟨rm_g (by decide) (by decide) (by decide) (by decide) (scl_r (by decide) scl_n) (scv_r (by decide) scv_n), rm_g (by decide) (by decide) (by decide) (by decide) (scl_r (by decide) scl_n) (scv_r (by decide) scv_n), rm_g (by decide) (by decide) (by decide) (by decide) (scl_r (by decide) scl_n) (scv_r (by decide) scv_n), h _ _ _ ?_⟩
  exact (mk_ar (F := 58) (by decide) (by decide) (show SH[154]? = some (1, 6) from rfl) (by decide) (by decide) (by decide) (mk_ar (F := 57) (by decide) (by decide) (show SH[153]? = some (1, 6) from rfl) (by decide) (by decide) (by decide) (mk_ar (F := 56) (by decide) (by decide) (show SH[152]? = some (1, 6) from rfl) (by decide) (by decide) (by decide) (mk_i (F := 55) (v := 0) (mk_i (F := 54) (v := 0) q)))))
theorem w121_12 (q : BLD Ua Ub 0 122 155 ro io J M S I L R)
    (h : ∀ I L R, BLD Ua Ub 0 122 158 (pm_up (pm_up (pm_up (ro) 59 (some 155)) 60 (some 156)) 61 (some 157)) (io) J M S I L R → pm_wp X (d + 1) 121 549 [(0, .ref 122)] [] 35 1365 (SH.take 158) I L R Q) : pm_wp X (d + 1) 121 525 [(0, .ref 122)] [] 32 1329 (SH.take 155) I L R Q := by
  have e155 : (SH.take 155)[122]? = some (0, 8) := (sh_at (by decide)).trans rfl
  have l155 : (SH.take 155).length = 155 := sh_ln (by decide)
  have e156 : (SH.take 156)[122]? = some (0, 8) := (sh_at (by decide)).trans rfl
  have l156 : (SH.take 156).length = 156 := sh_ln (by decide)
  have e157 : (SH.take 157)[122]? = some (0, 8) := (sh_at (by decide)).trans rfl
  have l157 : (SH.take 157).length = 157 := sh_ln (by decide)
  have e158 : (SH.take 158)[122]? = some (0, 8) := (sh_at (by decide)).trans rfl
  have l158 : (SH.take 158).length = 158 := sh_ln (by decide)
  have t155 : SH.take 155 ++ [(1, 6)] = SH.take 156 := sh_tk rfl
  have t156 : SH.take 156 ++ [(1, 6)] = SH.take 157 := sh_tk rfl
  have t157 : SH.take 157 ++ [(1, 24)] = SH.take 158 := sh_tk rfl
  refine pm_gos (n := 60) (stops := [549]) ?_
  simp only [st_iload_n, st_iload, st_lload_n, st_aload_n, st_aload, st_istore_n, st_istore, st_astore_n, st_astore, st_iconst, st_bipush, st_sipush, st_lconst, st_ldc, st_ldc_w, st_ldc2_w, st_getfield, st_putfieldI, st_putfieldR, st_getstatic, st_iaload, st_iastore, st_baload, st_bastore, st_laload, st_lastore, st_aaload, st_aastore, st_arraylength, st_iadd, st_isub, st_imul, st_iand, st_ior, st_ixor, st_ishl, st_ishr, st_idiv, st_irem, st_ineg, st_land, st_lor, st_lshl, st_i2l, st_l2i, st_i2b, st_i2s, st_i2c, st_lcmp, st_iinc, st_dupI, st_dupR, st_dup2, st_pop, st_goto, st_if_eq, st_icmp_eq, st_if_ne, st_icmp_ne, st_if_lt, st_icmp_lt, st_if_ge, st_icmp_ge, st_if_gt, st_icmp_gt, st_if_le, st_icmp_le, st_tsw, st_lsw, st_newarray, st_anewarray, st_new, st_invokevirtual, st_invokespecial, oin_ref, st_static, st_max, st_min, st_abs, st_copyi, st_copyl, st_ireturn, st_lreturn, st_areturn, st_return, rn_succ, inl_nil, inl_cons, rno_some, oi_some, ol_some, or_some, lk_cons, ins_nil, ins_cons, rm_nil, rm_int, rm_ref, rm_long, pop_0, pop_1, pop_2, pop_3, pop_4, pop_5, pop_6, la_nil, la_int, la_ref, la_long, cat_nil, cat_int, cat_ref, cat_long, call_succ, cont_some, cont_none, rcv_0, rcv_1, rcv_2, rcv_3, rcv_4, rcv_5, rcv_6, rcv_7, rcv_8, rcv_s, rf_some, ret_0, ret_10, ret_11, ret_ite, ite_0, sw_nil, sw_cons, ln_some, isk_some, al_some, ↓reduceIte, Nat.reduceAdd, Nat.reduceEqDiff, Nat.reduceLeDiff, Nat.reduceLT, Int32.reduceLT, Int32.reduceLE, Int32.reduceToNatClampNeg, Int32.reduceOfNat, Int32.reduceAdd, Int32.reduceSub, Int.reduceEq, Int.reduceNeg, Int.reduceLT, Int32.reduceOfInt, Int64.reduceOfInt, Bool.false_eq_true, true_and, and_true, eq_self, not_true_eq_false, not_false_eq_true, false_imp_iff, true_imp_iff, forall_const, or_true, true_or, ne_eq, Nat.zero_add, Nat.add_zero, Nat.le_refl, reduceCtorEq, Ft121, e155, l155, e156, l156, e157, l157, e158, l158, t155, t156, t157]
  clear e155 l155 e156 l156 e157 l157 e158 l158 t155 t156 t157
  refine ⟨rm_g (by decide) (by decide) (by decide) (by decide) (scl_r (by decide) scl_n) (scv_r (by decide) scv_n), rm_g (by decide) (by decide) (by decide) (by decide) (scl_r (by decide) scl_n) (scv_r (by decide) scv_n), rm_g (by decide) (by decide) (by decide) (by decide) (scl_r (by decide) scl_n) (scv_r (by decide) scv_n), h _ _ _ ?_⟩
  exact (mk_ar (F := 61) (by decide) (by decide) (show SH[157]? = some (1, 24) from rfl) (by decide) (by decide) (by decide) (mk_ar (F := 60) (by decide) (by decide) (show SH[156]? = some (1, 6) from rfl) (by decide) (by decide) (by decide) (mk_ar (F := 59) (by decide) (by decide) (show SH[155]? = some (1, 6) from rfl) (by decide) (by decide) (by decide) q)))
theorem w121_13 (q : BLD Ua Ub 0 122 158 ro io J M S I L R)
    (h : ∀ I L R, BLD Ua Ub 0 122 161 (pm_up (pm_up (pm_up (ro) 62 (some 158)) 63 (some 159)) 64 (some 160)) (io) J M S I L R → pm_wp X (d + 1) 121 570 [(0, .ref 122)] [] 38 1380 (SH.take 161) I L R Q) : pm_wp X (d + 1) 121 549 [(0, .ref 122)] [] 35 1365 (SH.take 158) I L R Q := by
  have e158 : (SH.take 158)[122]? = some (0, 8) := (sh_at (by decide)).trans rfl
  have l158 : (SH.take 158).length = 158 := sh_ln (by decide)
  have e159 : (SH.take 159)[122]? = some (0, 8) := (sh_at (by decide)).trans rfl
  have l159 : (SH.take 159).length = 159 := sh_ln (by decide)
  have e160 : (SH.take 160)[122]? = some (0, 8) := (sh_at (by decide)).trans rfl
  have l160 : (SH.take 160).length = 160 := sh_ln (by decide)
  have e161 : (SH.take 161)[122]? = some (0, 8) := (sh_at (by decide)).trans rfl
  have l161 : (SH.take 161).length = 161 := sh_ln (by decide)
  have t158 : SH.take 158 ++ [(1, 5)] = SH.take 159 := sh_tk rfl
  have t159 : SH.take 159 ++ [(1, 5)] = SH.take 160 := sh_tk rfl
  have t160 : SH.take 160 ++ [(1, 5)] = SH.take 161 := sh_tk rfl
  refine pm_gos (n := 60) (stops := [570]) ?_
  simp only [st_iload_n, st_iload, st_lload_n, st_aload_n, st_aload, st_istore_n, st_istore, st_astore_n, st_astore, st_iconst, st_bipush, st_sipush, st_lconst, st_ldc, st_ldc_w, st_ldc2_w, st_getfield, st_putfieldI, st_putfieldR, st_getstatic, st_iaload, st_iastore, st_baload, st_bastore, st_laload, st_lastore, st_aaload, st_aastore, st_arraylength, st_iadd, st_isub, st_imul, st_iand, st_ior, st_ixor, st_ishl, st_ishr, st_idiv, st_irem, st_ineg, st_land, st_lor, st_lshl, st_i2l, st_l2i, st_i2b, st_i2s, st_i2c, st_lcmp, st_iinc, st_dupI, st_dupR, st_dup2, st_pop, st_goto, st_if_eq, st_icmp_eq, st_if_ne, st_icmp_ne, st_if_lt, st_icmp_lt, st_if_ge, st_icmp_ge, st_if_gt, st_icmp_gt, st_if_le, st_icmp_le, st_tsw, st_lsw, st_newarray, st_anewarray, st_new, st_invokevirtual, st_invokespecial, oin_ref, st_static, st_max, st_min, st_abs, st_copyi, st_copyl, st_ireturn, st_lreturn, st_areturn, st_return, rn_succ, inl_nil, inl_cons, rno_some, oi_some, ol_some, or_some, lk_cons, ins_nil, ins_cons, rm_nil, rm_int, rm_ref, rm_long, pop_0, pop_1, pop_2, pop_3, pop_4, pop_5, pop_6, la_nil, la_int, la_ref, la_long, cat_nil, cat_int, cat_ref, cat_long, call_succ, cont_some, cont_none, rcv_0, rcv_1, rcv_2, rcv_3, rcv_4, rcv_5, rcv_6, rcv_7, rcv_8, rcv_s, rf_some, ret_0, ret_10, ret_11, ret_ite, ite_0, sw_nil, sw_cons, ln_some, isk_some, al_some, ↓reduceIte, Nat.reduceAdd, Nat.reduceEqDiff, Nat.reduceLeDiff, Nat.reduceLT, Int32.reduceLT, Int32.reduceLE, Int32.reduceToNatClampNeg, Int32.reduceOfNat, Int32.reduceAdd, Int32.reduceSub, Int.reduceEq, Int.reduceNeg, Int.reduceLT, Int32.reduceOfInt, Int64.reduceOfInt, Bool.false_eq_true, true_and, and_true, eq_self, not_true_eq_false, not_false_eq_true, false_imp_iff, true_imp_iff, forall_const, or_true, true_or, ne_eq, Nat.zero_add, Nat.add_zero, Nat.le_refl, reduceCtorEq, Ft121, e158, l158, e159, l159, e160, l160, e161, l161, t158, t159, t160]
  clear e158 l158 e159 l159 e160 l160 e161 l161 t158 t159 t160
  refine ⟨rm_g (by decide) (by decide) (by decide) (by decide) (scl_r (by decide) scl_n) (scv_r (by decide) scv_n), rm_g (by decide) (by decide) (by decide) (by decide) (scl_r (by decide) scl_n) (scv_r (by decide) scv_n), rm_g (by decide) (by decide) (by decide) (by decide) (scl_r (by decide) scl_n) (scv_r (by decide) scv_n), h _ _ _ ?_⟩
  exact (mk_ar (F := 64) (by decide) (by decide) (show SH[160]? = some (1, 5) from rfl) (by decide) (by decide) (by decide) (mk_ar (F := 63) (by decide) (by decide) (show SH[159]? = some (1, 5) from rfl) (by decide) (by decide) (by decide) (mk_ar (F := 62) (by decide) (by decide) (show SH[158]? = some (1, 5) from rfl) (by decide) (by decide) (by decide) q)))
theorem w121_14 (q : BLD Ua Ub 0 122 161 ro io J M S I L R)
    (h : ∀ I L R, BLD Ua Ub 0 122 164 (pm_up (pm_up (pm_up (ro) 65 (some 161)) 66 (some 162)) 67 (some 163)) (io) J M S I L R → pm_wp X (d + 1) 121 594 [(0, .ref 122)] [] 41 1408 (SH.take 164) I L R Q) : pm_wp X (d + 1) 121 570 [(0, .ref 122)] [] 38 1380 (SH.take 161) I L R Q := by
  have e161 : (SH.take 161)[122]? = some (0, 8) := (sh_at (by decide)).trans rfl
  have l161 : (SH.take 161).length = 161 := sh_ln (by decide)
  have e162 : (SH.take 162)[122]? = some (0, 8) := (sh_at (by decide)).trans rfl
  have l162 : (SH.take 162).length = 162 := sh_ln (by decide)
  have e163 : (SH.take 163)[122]? = some (0, 8) := (sh_at (by decide)).trans rfl
  have l163 : (SH.take 163).length = 163 := sh_ln (by decide)
  have e164 : (SH.take 164)[122]? = some (0, 8) := (sh_at (by decide)).trans rfl
  have l164 : (SH.take 164).length = 164 := sh_ln (by decide)
  have t161 : SH.take 161 ++ [(1, 10)] = SH.take 162 := sh_tk rfl
  have t162 : SH.take 162 ++ [(1, 10)] = SH.take 163 := sh_tk rfl
  have t163 : SH.take 163 ++ [(1, 8)] = SH.take 164 := sh_tk rfl
  refine pm_gos (n := 60) (stops := [594]) ?_
  simp only [st_iload_n, st_iload, st_lload_n, st_aload_n, st_aload, st_istore_n, st_istore, st_astore_n, st_astore, st_iconst, st_bipush, st_sipush, st_lconst, st_ldc, st_ldc_w, st_ldc2_w, st_getfield, st_putfieldI, st_putfieldR, st_getstatic, st_iaload, st_iastore, st_baload, st_bastore, st_laload, st_lastore, st_aaload, st_aastore, st_arraylength, st_iadd, st_isub, st_imul, st_iand, st_ior, st_ixor, st_ishl, st_ishr, st_idiv, st_irem, st_ineg, st_land, st_lor, st_lshl, st_i2l, st_l2i, st_i2b, st_i2s, st_i2c, st_lcmp, st_iinc, st_dupI, st_dupR, st_dup2, st_pop, st_goto, st_if_eq, st_icmp_eq, st_if_ne, st_icmp_ne, st_if_lt, st_icmp_lt, st_if_ge, st_icmp_ge, st_if_gt, st_icmp_gt, st_if_le, st_icmp_le, st_tsw, st_lsw, st_newarray, st_anewarray, st_new, st_invokevirtual, st_invokespecial, oin_ref, st_static, st_max, st_min, st_abs, st_copyi, st_copyl, st_ireturn, st_lreturn, st_areturn, st_return, rn_succ, inl_nil, inl_cons, rno_some, oi_some, ol_some, or_some, lk_cons, ins_nil, ins_cons, rm_nil, rm_int, rm_ref, rm_long, pop_0, pop_1, pop_2, pop_3, pop_4, pop_5, pop_6, la_nil, la_int, la_ref, la_long, cat_nil, cat_int, cat_ref, cat_long, call_succ, cont_some, cont_none, rcv_0, rcv_1, rcv_2, rcv_3, rcv_4, rcv_5, rcv_6, rcv_7, rcv_8, rcv_s, rf_some, ret_0, ret_10, ret_11, ret_ite, ite_0, sw_nil, sw_cons, ln_some, isk_some, al_some, ↓reduceIte, Nat.reduceAdd, Nat.reduceEqDiff, Nat.reduceLeDiff, Nat.reduceLT, Int32.reduceLT, Int32.reduceLE, Int32.reduceToNatClampNeg, Int32.reduceOfNat, Int32.reduceAdd, Int32.reduceSub, Int.reduceEq, Int.reduceNeg, Int.reduceLT, Int32.reduceOfInt, Int64.reduceOfInt, Bool.false_eq_true, true_and, and_true, eq_self, not_true_eq_false, not_false_eq_true, false_imp_iff, true_imp_iff, forall_const, or_true, true_or, ne_eq, Nat.zero_add, Nat.add_zero, Nat.le_refl, reduceCtorEq, Ft121, e161, l161, e162, l162, e163, l163, e164, l164, t161, t162, t163]
  clear e161 l161 e162 l162 e163 l163 e164 l164 t161 t162 t163
  refine ⟨rm_g (by decide) (by decide) (by decide) (by decide) (scl_r (by decide) scl_n) (scv_r (by decide) scv_n), rm_g (by decide) (by decide) (by decide) (by decide) (scl_r (by decide) scl_n) (scv_r (by decide) scv_n), rm_g (by decide) (by decide) (by decide) (by decide) (scl_r (by decide) scl_n) (scv_r (by decide) scv_n), h _ _ _ ?_⟩
  exact (mk_ar (F := 67) (by decide) (by decide) (show SH[163]? = some (1, 8) from rfl) (by decide) (by decide) (by decide) (mk_ar (F := 66) (by decide) (by decide) (show SH[162]? = some (1, 10) from rfl) (by decide) (by decide) (by decide) (mk_ar (F := 65) (by decide) (by decide) (show SH[161]? = some (1, 10) from rfl) (by decide) (by decide) (by decide) q)))
theorem w121_15 (q : BLD Ua Ub 0 122 164 ro io J M S I L R)
    (h : ∀ I L R, BLD Ua Ub 0 122 166 (pm_up (pm_up (ro) 68 (some 164)) 70 (some 165)) (pm_up (io) 69 0) J M S I L R → pm_wp X (d + 1) 121 615 [(0, .ref 122)] [] 43 1436 (SH.take 166) I L R Q) : pm_wp X (d + 1) 121 594 [(0, .ref 122)] [] 41 1408 (SH.take 164) I L R Q := by
  have e164 : (SH.take 164)[122]? = some (0, 8) := (sh_at (by decide)).trans rfl
  have l164 : (SH.take 164).length = 164 := sh_ln (by decide)
  have e165 : (SH.take 165)[122]? = some (0, 8) := (sh_at (by decide)).trans rfl
  have l165 : (SH.take 165).length = 165 := sh_ln (by decide)
  have e166 : (SH.take 166)[122]? = some (0, 8) := (sh_at (by decide)).trans rfl
  have l166 : (SH.take 166).length = 166 := sh_ln (by decide)
  have t164 : SH.take 164 ++ [(1, 8)] = SH.take 165 := sh_tk rfl
  have t165 : SH.take 165 ++ [(1, 20)] = SH.take 166 := sh_tk rfl
  refine pm_gos (n := 60) (stops := [615]) ?_
  simp only [st_iload_n, st_iload, st_lload_n, st_aload_n, st_aload, st_istore_n, st_istore, st_astore_n, st_astore, st_iconst, st_bipush, st_sipush, st_lconst, st_ldc, st_ldc_w, st_ldc2_w, st_getfield, st_putfieldI, st_putfieldR, st_getstatic, st_iaload, st_iastore, st_baload, st_bastore, st_laload, st_lastore, st_aaload, st_aastore, st_arraylength, st_iadd, st_isub, st_imul, st_iand, st_ior, st_ixor, st_ishl, st_ishr, st_idiv, st_irem, st_ineg, st_land, st_lor, st_lshl, st_i2l, st_l2i, st_i2b, st_i2s, st_i2c, st_lcmp, st_iinc, st_dupI, st_dupR, st_dup2, st_pop, st_goto, st_if_eq, st_icmp_eq, st_if_ne, st_icmp_ne, st_if_lt, st_icmp_lt, st_if_ge, st_icmp_ge, st_if_gt, st_icmp_gt, st_if_le, st_icmp_le, st_tsw, st_lsw, st_newarray, st_anewarray, st_new, st_invokevirtual, st_invokespecial, oin_ref, st_static, st_max, st_min, st_abs, st_copyi, st_copyl, st_ireturn, st_lreturn, st_areturn, st_return, rn_succ, inl_nil, inl_cons, rno_some, oi_some, ol_some, or_some, lk_cons, ins_nil, ins_cons, rm_nil, rm_int, rm_ref, rm_long, pop_0, pop_1, pop_2, pop_3, pop_4, pop_5, pop_6, la_nil, la_int, la_ref, la_long, cat_nil, cat_int, cat_ref, cat_long, call_succ, cont_some, cont_none, rcv_0, rcv_1, rcv_2, rcv_3, rcv_4, rcv_5, rcv_6, rcv_7, rcv_8, rcv_s, rf_some, ret_0, ret_10, ret_11, ret_ite, ite_0, sw_nil, sw_cons, ln_some, isk_some, al_some, ↓reduceIte, Nat.reduceAdd, Nat.reduceEqDiff, Nat.reduceLeDiff, Nat.reduceLT, Int32.reduceLT, Int32.reduceLE, Int32.reduceToNatClampNeg, Int32.reduceOfNat, Int32.reduceAdd, Int32.reduceSub, Int.reduceEq, Int.reduceNeg, Int.reduceLT, Int32.reduceOfInt, Int64.reduceOfInt, Bool.false_eq_true, true_and, and_true, eq_self, not_true_eq_false, not_false_eq_true, false_imp_iff, true_imp_iff, forall_const, or_true, true_or, ne_eq, Nat.zero_add, Nat.add_zero, Nat.le_refl, reduceCtorEq, Ft121, e164, l164, e165, l165, e166, l166, t164, t165]
  clear e164 l164 e165 l165 e166 l166 t164 t165
  refine ⟨rm_g (by decide) (by decide) (by decide) (by decide) (scl_r (by decide) scl_n) (scv_r (by decide) scv_n), rm_g (by decide) (by decide) (by decide) (by decide) (scl_r (by decide) scl_n) (scv_r (by decide) scv_n), h _ _ _ ?_⟩
  exact (mk_ar (F := 70) (by decide) (by decide) (show SH[165]? = some (1, 20) from rfl) (by decide) (by decide) (by decide) (mk_i (F := 69) (v := 0) (mk_ar (F := 68) (by decide) (by decide) (show SH[164]? = some (1, 8) from rfl) (by decide) (by decide) (by decide) q)))
theorem w121_16 (q : BLD Ua Ub 0 122 166 ro io J M S I L R)
    (h : ∀ I L R, BLD Ua Ub 0 122 167 (pm_up (ro) 71 (some 166)) (io) J M S I L R → pm_wp X (d + 1) 121 647 [(0, .ref 122)] [] 44 1442 (SH.take 167) I L R Q) : pm_wp X (d + 1) 121 615 [(0, .ref 122)] [] 43 1436 (SH.take 166) I L R Q := by
  have e166 : (SH.take 166)[122]? = some (0, 8) := (sh_at (by decide)).trans rfl
  have l166 : (SH.take 166).length = 166 := sh_ln (by decide)
  have e167 : (SH.take 167)[122]? = some (0, 8) := (sh_at (by decide)).trans rfl
  have l167 : (SH.take 167).length = 167 := sh_ln (by decide)
  have t166 : SH.take 166 ++ [(1, 6)] = SH.take 167 := sh_tk rfl
  have g166 : (SH.take 167)[166]? = some (1, 6) := (sh_at (by decide)).trans rfl
  have v0 : vp_in 0 6 := by unfold vp_in; decide
  have v1 : vp_in 1 6 := by unfold vp_in; decide
  have v2 : vp_in 2 6 := by unfold vp_in; decide
  have v3 : vp_in 3 6 := by unfold vp_in; decide
  have v4 : vp_in 4 6 := by unfold vp_in; decide
  have v5 : vp_in 5 6 := by unfold vp_in; decide
  refine pm_gos (n := 150) (stops := [647]) ?_
  simp only [st_iload_n, st_iload, st_lload_n, st_aload_n, st_aload, st_istore_n, st_istore, st_astore_n, st_astore, st_iconst, st_bipush, st_sipush, st_lconst, st_ldc, st_ldc_w, st_ldc2_w, st_getfield, st_putfieldI, st_putfieldR, st_getstatic, st_iaload, st_iastore, st_baload, st_bastore, st_laload, st_lastore, st_aaload, st_aastore, st_arraylength, st_iadd, st_isub, st_imul, st_iand, st_ior, st_ixor, st_ishl, st_ishr, st_idiv, st_irem, st_ineg, st_land, st_lor, st_lshl, st_i2l, st_l2i, st_i2b, st_i2s, st_i2c, st_lcmp, st_iinc, st_dupI, st_dupR, st_dup2, st_pop, st_goto, st_if_eq, st_icmp_eq, st_if_ne, st_icmp_ne, st_if_lt, st_icmp_lt, st_if_ge, st_icmp_ge, st_if_gt, st_icmp_gt, st_if_le, st_icmp_le, st_tsw, st_lsw, st_newarray, st_anewarray, st_new, st_invokevirtual, st_invokespecial, oin_ref, st_static, st_max, st_min, st_abs, st_copyi, st_copyl, st_ireturn, st_lreturn, st_areturn, st_return, rn_succ, inl_nil, inl_cons, rno_some, oi_some, ol_some, or_some, lk_cons, ins_nil, ins_cons, rm_nil, rm_int, rm_ref, rm_long, pop_0, pop_1, pop_2, pop_3, pop_4, pop_5, pop_6, la_nil, la_int, la_ref, la_long, cat_nil, cat_int, cat_ref, cat_long, call_succ, cont_some, cont_none, rcv_0, rcv_1, rcv_2, rcv_3, rcv_4, rcv_5, rcv_6, rcv_7, rcv_8, rcv_s, rf_some, ret_0, ret_10, ret_11, ret_ite, ite_0, sw_nil, sw_cons, ln_some, isk_some, al_some, ↓reduceIte, Nat.reduceAdd, Nat.reduceEqDiff, Nat.reduceLeDiff, Nat.reduceLT, Int32.reduceLT, Int32.reduceLE, Int32.reduceToNatClampNeg, Int32.reduceOfNat, Int32.reduceAdd, Int32.reduceSub, Int.reduceEq, Int.reduceNeg, Int.reduceLT, Int32.reduceOfInt, Int64.reduceOfInt, Bool.false_eq_true, true_and, and_true, eq_self, not_true_eq_false, not_false_eq_true, false_imp_iff, true_imp_iff, forall_const, or_true, true_or, ne_eq, Nat.zero_add, Nat.add_zero, Nat.le_refl, reduceCtorEq, Ft121, e166, l166, e167, l167, t166, g166, up_s, up_u, v0, v1, v2, v3, v4, v5]
  clear e166 l166 e167 l167 t166 g166 v0 v1 v2 v3 v4 v5
  have a166 : pm_up (pm_up (pm_up (pm_up (pm_up (pm_up (fun _ => 0) 0 (-1)) 1 (-1)) 2 (-1)) 3 (-1)) 4 (-1)) 5 (-1) = I0 166 := a_166
  have y166 : TT Ua Ub 166 = fun _ => none := y_166
  refine ⟨rm_g (by decide) (by decide) (by decide) (by decide) (scl_r (by decide) scl_n) (scv_r (by decide) scv_n), h _ _ _ ?_⟩
  exact (mk_ax (F := 71) (by decide) (by decide) a166 y166 q)
theorem w121_17 (q : BLD Ua Ub 0 122 167 ro io J M S I L R)
    (h : ∀ I L R, BLD Ua Ub 0 122 170 (pm_up (pm_up (pm_up (ro) 72 (some 167)) 73 (some 168)) 74 (some 169)) (io) J M S I L R → pm_wp X (d + 1) 121 672 [(0, .ref 122)] [] 47 1868 (SH.take 170) I L R Q) : pm_wp X (d + 1) 121 647 [(0, .ref 122)] [] 44 1442 (SH.take 167) I L R Q := by
  have e167 : (SH.take 167)[122]? = some (0, 8) := (sh_at (by decide)).trans rfl
  have l167 : (SH.take 167).length = 167 := sh_ln (by decide)
  have e168 : (SH.take 168)[122]? = some (0, 8) := (sh_at (by decide)).trans rfl
  have l168 : (SH.take 168).length = 168 := sh_ln (by decide)
  have e169 : (SH.take 169)[122]? = some (0, 8) := (sh_at (by decide)).trans rfl
  have l169 : (SH.take 169).length = 169 := sh_ln (by decide)
  have e170 : (SH.take 170)[122]? = some (0, 8) := (sh_at (by decide)).trans rfl
  have l170 : (SH.take 170).length = 170 := sh_ln (by decide)
  have t167 : SH.take 167 ++ [(1, 6)] = SH.take 168 := sh_tk rfl
  have t168 : SH.take 168 ++ [(3, 360)] = SH.take 169 := sh_tk rfl
  have t169 : SH.take 169 ++ [(3, 60)] = SH.take 170 := sh_tk rfl
  refine pm_gos (n := 60) (stops := [672]) ?_
  simp only [st_iload_n, st_iload, st_lload_n, st_aload_n, st_aload, st_istore_n, st_istore, st_astore_n, st_astore, st_iconst, st_bipush, st_sipush, st_lconst, st_ldc, st_ldc_w, st_ldc2_w, st_getfield, st_putfieldI, st_putfieldR, st_getstatic, st_iaload, st_iastore, st_baload, st_bastore, st_laload, st_lastore, st_aaload, st_aastore, st_arraylength, st_iadd, st_isub, st_imul, st_iand, st_ior, st_ixor, st_ishl, st_ishr, st_idiv, st_irem, st_ineg, st_land, st_lor, st_lshl, st_i2l, st_l2i, st_i2b, st_i2s, st_i2c, st_lcmp, st_iinc, st_dupI, st_dupR, st_dup2, st_pop, st_goto, st_if_eq, st_icmp_eq, st_if_ne, st_icmp_ne, st_if_lt, st_icmp_lt, st_if_ge, st_icmp_ge, st_if_gt, st_icmp_gt, st_if_le, st_icmp_le, st_tsw, st_lsw, st_newarray, st_anewarray, st_new, st_invokevirtual, st_invokespecial, oin_ref, st_static, st_max, st_min, st_abs, st_copyi, st_copyl, st_ireturn, st_lreturn, st_areturn, st_return, rn_succ, inl_nil, inl_cons, rno_some, oi_some, ol_some, or_some, lk_cons, ins_nil, ins_cons, rm_nil, rm_int, rm_ref, rm_long, pop_0, pop_1, pop_2, pop_3, pop_4, pop_5, pop_6, la_nil, la_int, la_ref, la_long, cat_nil, cat_int, cat_ref, cat_long, call_succ, cont_some, cont_none, rcv_0, rcv_1, rcv_2, rcv_3, rcv_4, rcv_5, rcv_6, rcv_7, rcv_8, rcv_s, rf_some, ret_0, ret_10, ret_11, ret_ite, ite_0, sw_nil, sw_cons, ln_some, isk_some, al_some, ↓reduceIte, Nat.reduceAdd, Nat.reduceEqDiff, Nat.reduceLeDiff, Nat.reduceLT, Int32.reduceLT, Int32.reduceLE, Int32.reduceToNatClampNeg, Int32.reduceOfNat, Int32.reduceAdd, Int32.reduceSub, Int.reduceEq, Int.reduceNeg, Int.reduceLT, Int32.reduceOfInt, Int64.reduceOfInt, Bool.false_eq_true, true_and, and_true, eq_self, not_true_eq_false, not_false_eq_true, false_imp_iff, true_imp_iff, forall_const, or_true, true_or, ne_eq, Nat.zero_add, Nat.add_zero, Nat.le_refl, reduceCtorEq, Ft121, e167, l167, e168, l168, e169, l169, e170, l170, t167, t168, t169]
  clear e167 l167 e168 l168 e169 l169 e170 l170 t167 t168 t169
  refine ⟨rm_g (by decide) (by decide) (by decide) (by decide) (scl_r (by decide) scl_n) (scv_r (by decide) scv_n), rm_g (by decide) (by decide) (by decide) (by decide) (scl_r (by decide) scl_n) (scv_r (by decide) scv_n), rm_g (by decide) (by decide) (by decide) (by decide) (scl_r (by decide) scl_n) (scv_r (by decide) scv_n), h _ _ _ ?_⟩
  exact (mk_ar (F := 74) (by decide) (by decide) (show SH[169]? = some (3, 60) from rfl) (by decide) (by decide) (by decide) (mk_ar (F := 73) (by decide) (by decide) (show SH[168]? = some (3, 360) from rfl) (by decide) (by decide) (by decide) (mk_ar (F := 72) (by decide) (by decide) (show SH[167]? = some (1, 6) from rfl) (by decide) (by decide) (by decide) q)))
theorem w_x121 (c : CN Ua Ub 0 122 I L R) (x0 : pm_up (pm_up (pm_up (pm_up (pm_up (pm_up (pm_up (pm_up (pm_up (pm_up (pm_up (pm_up (pm_up (pm_up (pm_up (pm_up (pm_up (pm_up (pm_up (pm_up (pm_up (pm_up (pm_up (pm_up (pm_up (pm_up (pm_up (pm_up (fun _ => 0) 0 0) 1 0) 2 0) 3 0) 10 0) 11 (-1)) 12 0) 13 0) 14 0) 23 0) 24 0) 25 0) 30 0) 31 0) 32 0) 37 0) 41 0) 42 0) 47 0) 48 (-1)) 49 0) 50 0) 51 0) 52 0) 53 0) 54 0) 55 0) 69 0 = I0 122) (y0 : pm_up (pm_up (pm_up (pm_up (pm_up (pm_up (pm_up (pm_up (pm_up (pm_up (pm_up (pm_up (pm_up (pm_up (pm_up (pm_up (pm_up (pm_up (pm_up (pm_up (pm_up (pm_up (pm_up (pm_up (pm_up (pm_up (pm_up (pm_up (pm_up (pm_up (pm_up (pm_up (pm_up (pm_up (pm_up (pm_up (pm_up (pm_up (pm_up (pm_up (pm_up (pm_up (pm_up (pm_up (pm_up (pm_up (pm_up (fun _ => none) 4 (some 123)) 5 (some 124)) 6 (some 125)) 7 (some 126)) 8 (some 127)) 9 (some 128)) 15 (some 129)) 16 (some 130)) 17 (some 131)) 18 (some 132)) 19 (some 133)) 20 (some 134)) 21 (some 135)) 22 (some 136)) 26 (some 137)) 27 (some 138)) 28 (some 139)) 29 (some 140)) 33 (some 141)) 34 (some 142)) 35 (some 143)) 36 (some 144)) 38 (some 145)) 39 (some 146)) 40 (some 147)) 43 (some 148)) 44 (some 149)) 45 (some 150)) 46 (some 151)) 56 (some 152)) 57 (some 153)) 58 (some 154)) 59 (some 155)) 60 (some 156)) 61 (some 157)) 62 (some 158)) 63 (some 159)) 64 (some 160)) 65 (some 161)) 66 (some 162)) 67 (some 163)) 68 (some 164)) 70 (some 165)) 71 (some 166)) 72 (some 167)) 73 (some 168)) 74 (some 169) = TT Ua Ub 122)
    (h : ∀ (I' : pm_I) (L' : pm_L) (R' : pm_R), CF Ua Ub 0 170 I' L' R' → (∀ a, a = 0 ∨ a = 0 → I' a = I a ∧ L' a = L a ∧ R' a = R a) → Q none (SH.take 170) I' L' R') : pm_wp X (d + 1) 121 0 [(0, .ref 122)] [] 0 0 (SH.take 123) I L R Q := by
  refine w121_0 (mk_in c) fun I0 L0 R0 q0 => ?_
  refine w121_1 q0 fun I1 L1 R1 q1 => ?_
  refine w121_2 q1 fun I2 L2 R2 q2 => ?_
  refine w121_3 q2 fun I3 L3 R3 q3 => ?_
  refine w121_4 q3 fun I4 L4 R4 q4 => ?_
  refine w121_5 q4 fun I5 L5 R5 q5 => ?_
  refine w121_6 q5 fun I6 L6 R6 q6 => ?_
  refine w121_7 q6 fun I7 L7 R7 q7 => ?_
  refine w121_8 q7 fun I8 L8 R8 q8 => ?_
  refine w121_9 q8 fun I9 L9 R9 q9 => ?_
  refine w121_10 q9 fun I10 L10 R10 q10 => ?_
  refine w121_11 q10 fun I11 L11 R11 q11 => ?_
  refine w121_12 q11 fun I12 L12 R12 q12 => ?_
  refine w121_13 q12 fun I13 L13 R13 q13 => ?_
  refine w121_14 q13 fun I14 L14 R14 q14 => ?_
  refine w121_15 q14 fun I15 L15 R15 q15 => ?_
  refine w121_16 q15 fun I16 L16 R16 q16 => ?_
  refine w121_17 q16 fun I17 L17 R17 q17 => ?_
  refine pm_gos (n := 60) (stops := []) ?_
  simp only [st_iload_n, st_iload, st_lload_n, st_aload_n, st_aload, st_istore_n, st_istore, st_astore_n, st_astore, st_iconst, st_bipush, st_sipush, st_lconst, st_ldc, st_ldc_w, st_ldc2_w, st_getfield, st_putfieldI, st_putfieldR, st_getstatic, st_iaload, st_iastore, st_baload, st_bastore, st_laload, st_lastore, st_aaload, st_aastore, st_arraylength, st_iadd, st_isub, st_imul, st_iand, st_ior, st_ixor, st_ishl, st_ishr, st_idiv, st_irem, st_ineg, st_land, st_lor, st_lshl, st_i2l, st_l2i, st_i2b, st_i2s, st_i2c, st_lcmp, st_iinc, st_dupI, st_dupR, st_dup2, st_pop, st_goto, st_if_eq, st_icmp_eq, st_if_ne, st_icmp_ne, st_if_lt, st_icmp_lt, st_if_ge, st_icmp_ge, st_if_gt, st_icmp_gt, st_if_le, st_icmp_le, st_tsw, st_lsw, st_newarray, st_anewarray, st_new, st_invokevirtual, st_invokespecial, oin_ref, st_static, st_max, st_min, st_abs, st_copyi, st_copyl, st_ireturn, st_lreturn, st_areturn, st_return, rn_succ, inl_nil, inl_cons, rno_some, oi_some, ol_some, or_some, lk_cons, ins_nil, ins_cons, rm_nil, rm_int, rm_ref, rm_long, pop_0, pop_1, pop_2, pop_3, pop_4, pop_5, pop_6, la_nil, la_int, la_ref, la_long, cat_nil, cat_int, cat_ref, cat_long, call_succ, cont_some, cont_none, rcv_0, rcv_1, rcv_2, rcv_3, rcv_4, rcv_5, rcv_6, rcv_7, rcv_8, rcv_s, rf_some, ret_0, ret_10, ret_11, ret_ite, ite_0, sw_nil, sw_cons, ln_some, isk_some, al_some, ↓reduceIte, Nat.reduceAdd, Nat.reduceEqDiff, Nat.reduceLeDiff, Nat.reduceLT, Int32.reduceLT, Int32.reduceLE, Int32.reduceToNatClampNeg, Int32.reduceOfNat, Int32.reduceAdd, Int32.reduceSub, Int.reduceEq, Int.reduceNeg, Int.reduceLT, Int32.reduceOfInt, Int64.reduceOfInt, Bool.false_eq_true, true_and, and_true, eq_self, not_true_eq_false, not_false_eq_true, false_imp_iff, true_imp_iff, forall_const, or_true, true_or, ne_eq, Nat.zero_add, Nat.add_zero, Nat.le_refl, reduceCtorEq, Ft121]
  obtain ⟨z1, z2⟩ := mk_out (by decide) (by decide) x0 y0 q17
  exact h _ _ _ z1 z2
end MAKE4
