/-! whether what is behind a beat is as the rows say -/
def rwB (n : Nat) (w : Vw) (F S T : Nat → Int32) (m : Int32) (z : Nat) : Bool := !(decide (T z = m) && decide (0 ≤ F z ∧ F z ≤ nI n - 1) && decide (w 5 (F z).toNatClampNeg ≠ S z))
def isoB (n : Nat) (w : Vw) (F S T : Nat → Int32) (m : Int32) : Nat → Bool
  | 0 => true
  | z + 1 => isoB n w F S T m z && rwB n w F S T m z
theorem iso_st {n : Nat} {w : Vw} {F S T : Nat → Int32} {m : Int32} {z : Nat} (h : isoB n w F S T m z = false) : ∀ r, isoB n w F S T m (z + r) = false
  | 0 => h
  | r + 1 => by
    rw [← Nat.add_assoc]
    unfold isoB
    rw [iso_st h r]
    rfl
section PLI
variable {X : pm_X} {d : Nat} {I : pm_I} {L : pm_L} {Q : pm_Q} {K : Nat → Nat} {q t : Nat}
theorem w_isSoBehind {n a N sz : Nat} {m : Int32} (hr : isRw a N) (hn : I 62 0 = nI n) (hn6 : n ≤ 6) (hsz : I a 0 = nI sz) (hsN : sz ≤ N)
    (h : Q (some (.int (bI (isoB n (tw I 62) (I (a + 1)) (I (a + 2)) (I (a + 3)) m sz)))) SH I L (RR K)) : pm_wp X (d + 2) 19 0 [(0, .ref 61), (1, .int m), (2, .ref a)] [] 0 0 SH I L (RR K) Q := by
  have Rf := isRwF (K := K) hr
  have hN : N ≤ 10 := by rcases hr with ⟨-, rfl⟩ | ⟨-, rfl⟩ | ⟨-, rfl⟩ | ⟨-, rfl⟩ | ⟨-, rfl⟩ | ⟨-, rfl⟩ <;> omega
  have loop : ∀ r z (o : List (Nat × Value)), z + r = sz → isoB n (tw I 62) (I (a + 1)) (I (a + 2)) (I (a + 3)) m z = true → (o = [] ∨ ∃ x, o = [(4, .int x)]) →
      pm_wp X (d + 2) 19 2 ([(0, .ref 61), (1, .int m), (2, .ref a), (3, .int (nI z))] ++ o) [] 0 0 SH I L (RR K) Q := by
    intro r
    induction r with
    | zero =>
      intro z o hz hb ho
      obtain rfl : z = sz := by omega
      rw [hb] at h
      rcases ho with rfl | ⟨x0, rfl⟩
      all_goals
        simp only [List.append_nil, List.cons_append, List.nil_append]
        refine pm_gos (n := 60) (stops := [2]) ?_
        simp only [st_iload_n, st_iload, st_lload_n, st_aload_n, st_aload, st_istore_n, st_istore, st_astore_n, st_astore, st_iconst, st_bipush, st_sipush, st_lconst, st_ldc, st_ldc_w, st_ldc2_w, st_getfield, st_putfieldI, st_putfieldR, st_getstatic, st_iaload, st_iastore, st_baload, st_bastore, st_laload, st_lastore, st_aaload, st_aastore, st_arraylength, st_iadd, st_isub, st_imul, st_iand, st_ior, st_ixor, st_ishl, st_ishr, st_idiv, st_irem, st_ineg, st_land, st_lor, st_lshl, st_i2l, st_l2i, st_i2b, st_i2s, st_i2c, st_lcmp, st_iinc, st_dupI, st_dupR, st_dup2, st_pop, st_goto, st_if_eq, st_icmp_eq, st_if_ne, st_icmp_ne, st_if_lt, st_icmp_lt, st_if_ge, st_icmp_ge, st_if_gt, st_icmp_gt, st_if_le, st_icmp_le, st_tsw, st_lsw, st_newarray, st_anewarray, st_new, st_invokevirtual, st_invokespecial, oin_ref, st_static, st_max, st_min, st_abs, st_copyi, st_copyl, st_ireturn, st_lreturn, st_areturn, st_return, rn_succ, inl_nil, inl_cons, rno_some, oi_some, ol_some, or_some, lk_cons, ins_nil, ins_cons, rm_nil, rm_int, rm_ref, rm_long, pop_0, pop_1, pop_2, pop_3, pop_4, pop_5, pop_6, la_nil, la_int, la_ref, la_long, cat_nil, cat_int, cat_ref, cat_long, call_succ, cont_some, cont_none, rcv_0, rcv_1, rcv_2, rcv_3, rcv_4, rcv_5, rcv_6, rcv_7, rcv_8, rcv_s, rf_some, ret_0, ret_10, ret_11, ret_ite, ite_0, sw_nil, sw_cons, ln_some, isk_some, al_some, ↓reduceIte, Nat.reduceAdd, Nat.reduceEqDiff, Nat.reduceLeDiff, Nat.reduceLT, Int32.reduceLT, Int32.reduceLE, Int32.reduceToNatClampNeg, Int32.reduceOfNat, Int32.reduceAdd, Int32.reduceSub, Int.reduceEq, Int.reduceNeg, Int.reduceLT, Int32.reduceOfInt, Int64.reduceOfInt, Bool.false_eq_true, true_and, and_true, eq_self, not_true_eq_false, not_false_eq_true, false_imp_iff, true_imp_iff, forall_const, or_true, true_or, ne_eq, Nat.zero_add, Nat.add_zero, Nat.le_refl, reduceCtorEq, Ft19, Rf, hsz, Int32.le_refl]
        exact h
    | succ r ih =>
      intro z o hz hb ho
      have hlt : ¬ nI sz ≤ nI z := nI_ge (by omega) (by omega)
      have hv : vp_in (nI z) N := vi (by omega) (by omega)
      have hc : (nI z).toNatClampNeg = z := nI_clamp (by omega)
      have nx : ∀ x, rwB n (tw I 62) (I (a + 1)) (I (a + 2)) (I (a + 3)) m z = true → _ := fun x hx => ih (z + 1) [(4, .int x)] (by omega) (by unfold isoB; rw [hb, hx]; rfl) (Or.inr ⟨x, rfl⟩)
      simp only [List.cons_append, List.nil_append] at nx
      have bad : rwB n (tw I 62) (I (a + 1)) (I (a + 2)) (I (a + 3)) m z = false → Q (some (.int 0)) SH I L (RR K) := fun hx => by
        have e : isoB n (tw I 62) (I (a + 1)) (I (a + 2)) (I (a + 3)) m (z + 1) = false := by unfold isoB; rw [hx, Bool.and_false]
        have := iso_st e r
        rw [show z + 1 + r = sz by omega] at this
        rw [this] at h
        exact h
      rcases ho with rfl | ⟨x0, rfl⟩
      all_goals
        simp only [List.append_nil, List.cons_append, List.nil_append]
        refine pm_gos (n := 60) (stops := [2]) ?_
        simp only [st_iload_n, st_iload, st_lload_n, st_aload_n, st_aload, st_istore_n, st_istore, st_astore_n, st_astore, st_iconst, st_bipush, st_sipush, st_lconst, st_ldc, st_ldc_w, st_ldc2_w, st_getfield, st_putfieldI, st_putfieldR, st_getstatic, st_iaload, st_iastore, st_baload, st_bastore, st_laload, st_lastore, st_aaload, st_aastore, st_arraylength, st_iadd, st_isub, st_imul, st_iand, st_ior, st_ixor, st_ishl, st_ishr, st_idiv, st_irem, st_ineg, st_land, st_lor, st_lshl, st_i2l, st_l2i, st_i2b, st_i2s, st_i2c, st_lcmp, st_iinc, st_dupI, st_dupR, st_dup2, st_pop, st_goto, st_if_eq, st_icmp_eq, st_if_ne, st_icmp_ne, st_if_lt, st_icmp_lt, st_if_ge, st_icmp_ge, st_if_gt, st_icmp_gt, st_if_le, st_icmp_le, st_tsw, st_lsw, st_newarray, st_anewarray, st_new, st_invokevirtual, st_invokespecial, oin_ref, st_static, st_max, st_min, st_abs, st_copyi, st_copyl, st_ireturn, st_lreturn, st_areturn, st_return, rn_succ, inl_nil, inl_cons, rno_some, oi_some, ol_some, or_some, lk_cons, ins_nil, ins_cons, rm_nil, rm_int, rm_ref, rm_long, pop_0, pop_1, pop_2, pop_3, pop_4, pop_5, pop_6, la_nil, la_int, la_ref, la_long, cat_nil, cat_int, cat_ref, cat_long, call_succ, cont_some, cont_none, rcv_0, rcv_1, rcv_2, rcv_3, rcv_4, rcv_5, rcv_6, rcv_7, rcv_8, rcv_s, rf_some, ret_0, ret_10, ret_11, ret_ite, ite_0, sw_nil, sw_cons, ln_some, isk_some, al_some, ↓reduceIte, Nat.reduceAdd, Nat.reduceEqDiff, Nat.reduceLeDiff, Nat.reduceLT, Int32.reduceLT, Int32.reduceLE, Int32.reduceToNatClampNeg, Int32.reduceOfNat, Int32.reduceAdd, Int32.reduceSub, Int.reduceEq, Int.reduceNeg, Int.reduceLT, Int32.reduceOfInt, Int64.reduceOfInt, Bool.false_eq_true, true_and, and_true, eq_self, not_true_eq_false, not_false_eq_true, false_imp_iff, true_imp_iff, forall_const, or_true, true_or, ne_eq, Nat.zero_add, Nat.add_zero, Nat.le_refl, reduceCtorEq, Ft19, Rf, hsz, hlt, hv, hc, shF, rrF K, ← nI_succ]
        refine ⟨fun h1 => ?_, fun h1 => ?_⟩
        · exact nx _ (by unfold rwB; rw [decide_eq_false h1]; rfl)
        · refine w_has isT62 ?_
          rw [if_bI, hn]
          simp only [st_iload_n, st_iload, st_lload_n, st_aload_n, st_aload, st_istore_n, st_istore, st_astore_n, st_astore, st_iconst, st_bipush, st_sipush, st_lconst, st_ldc, st_ldc_w, st_ldc2_w, st_getfield, st_putfieldI, st_putfieldR, st_getstatic, st_iaload, st_iastore, st_baload, st_bastore, st_laload, st_lastore, st_aaload, st_aastore, st_arraylength, st_iadd, st_isub, st_imul, st_iand, st_ior, st_ixor, st_ishl, st_ishr, st_idiv, st_irem, st_ineg, st_land, st_lor, st_lshl, st_i2l, st_l2i, st_i2b, st_i2s, st_i2c, st_lcmp, st_iinc, st_dupI, st_dupR, st_dup2, st_pop, st_goto, st_if_eq, st_icmp_eq, st_if_ne, st_icmp_ne, st_if_lt, st_icmp_lt, st_if_ge, st_icmp_ge, st_if_gt, st_icmp_gt, st_if_le, st_icmp_le, st_tsw, st_lsw, st_newarray, st_anewarray, st_new, st_invokevirtual, st_invokespecial, oin_ref, st_static, st_max, st_min, st_abs, st_copyi, st_copyl, st_ireturn, st_lreturn, st_areturn, st_return, rn_succ, inl_nil, inl_cons, rno_some, oi_some, ol_some, or_some, lk_cons, ins_nil, ins_cons, rm_nil, rm_int, rm_ref, rm_long, pop_0, pop_1, pop_2, pop_3, pop_4, pop_5, pop_6, la_nil, la_int, la_ref, la_long, cat_nil, cat_int, cat_ref, cat_long, call_succ, cont_some, cont_none, rcv_0, rcv_1, rcv_2, rcv_3, rcv_4, rcv_5, rcv_6, rcv_7, rcv_8, rcv_s, rf_some, ret_0, ret_10, ret_11, ret_ite, ite_0, sw_nil, sw_cons, ln_some, isk_some, al_some, ↓reduceIte, Nat.reduceAdd, Nat.reduceEqDiff, Nat.reduceLeDiff, Nat.reduceLT, Int32.reduceLT, Int32.reduceLE, Int32.reduceToNatClampNeg, Int32.reduceOfNat, Int32.reduceAdd, Int32.reduceSub, Int.reduceEq, Int.reduceNeg, Int.reduceLT, Int32.reduceOfInt, Int64.reduceOfInt, Bool.false_eq_true, true_and, and_true, eq_self, not_true_eq_false, not_false_eq_true, false_imp_iff, true_imp_iff, forall_const, or_true, true_or, ne_eq, Nat.zero_add, Nat.add_zero, Nat.le_refl, reduceCtorEq, Ft19, Rf, hsz, hlt, hv, hc, shF, rrF K, bI_0, ← nI_succ]
          refine ⟨fun h2 => ?_, fun h2 => ?_⟩
          · exact nx _ (by unfold rwB; rw [h2, Bool.and_false]; rfl)
          · have h2' := of_decide_eq_true ((Bool.not_eq_false _).mp h2)
            obtain ⟨p, hp, ep⟩ : ∃ p : Nat, p < n ∧ I (a + 1) z = nI p := by
              obtain ⟨p, hp, ep⟩ := nI_of (Int32.not_lt.mpr h2'.1)
              refine ⟨p, ?_, ep⟩
              rw [ep] at h2'
              have hle := Int32.le_iff_toInt_le.mp h2'.2
              rw [nI_toInt hp] at hle
              cases n with
              | zero =>
                rw [show (nI 0 - 1).toInt = -1 from by decide] at hle
                omega
              | succ n' =>
                rw [nI_pred, nI_toInt (by omega)] at hle
                omega
            have hvp : vp_in (nI p) 6 := vi (by omega) (by omega)
            have hcp : (nI p).toNatClampNeg = p := nI_clamp (by omega)
            simp only [st_iload_n, st_iload, st_lload_n, st_aload_n, st_aload, st_istore_n, st_istore, st_astore_n, st_astore, st_iconst, st_bipush, st_sipush, st_lconst, st_ldc, st_ldc_w, st_ldc2_w, st_getfield, st_putfieldI, st_putfieldR, st_getstatic, st_iaload, st_iastore, st_baload, st_bastore, st_laload, st_lastore, st_aaload, st_aastore, st_arraylength, st_iadd, st_isub, st_imul, st_iand, st_ior, st_ixor, st_ishl, st_ishr, st_idiv, st_irem, st_ineg, st_land, st_lor, st_lshl, st_i2l, st_l2i, st_i2b, st_i2s, st_i2c, st_lcmp, st_iinc, st_dupI, st_dupR, st_dup2, st_pop, st_goto, st_if_eq, st_icmp_eq, st_if_ne, st_icmp_ne, st_if_lt, st_icmp_lt, st_if_ge, st_icmp_ge, st_if_gt, st_icmp_gt, st_if_le, st_icmp_le, st_tsw, st_lsw, st_newarray, st_anewarray, st_new, st_invokevirtual, st_invokespecial, oin_ref, st_static, st_max, st_min, st_abs, st_copyi, st_copyl, st_ireturn, st_lreturn, st_areturn, st_return, rn_succ, inl_nil, inl_cons, rno_some, oi_some, ol_some, or_some, lk_cons, ins_nil, ins_cons, rm_nil, rm_int, rm_ref, rm_long, pop_0, pop_1, pop_2, pop_3, pop_4, pop_5, pop_6, la_nil, la_int, la_ref, la_long, cat_nil, cat_int, cat_ref, cat_long, call_succ, cont_some, cont_none, rcv_0, rcv_1, rcv_2, rcv_3, rcv_4, rcv_5, rcv_6, rcv_7, rcv_8, rcv_s, rf_some, ret_0, ret_10, ret_11, ret_ite, ite_0, sw_nil, sw_cons, ln_some, isk_some, al_some, ↓reduceIte, Nat.reduceAdd, Nat.reduceEqDiff, Nat.reduceLeDiff, Nat.reduceLT, Int32.reduceLT, Int32.reduceLE, Int32.reduceToNatClampNeg, Int32.reduceOfNat, Int32.reduceAdd, Int32.reduceSub, Int.reduceEq, Int.reduceNeg, Int.reduceLT, Int32.reduceOfInt, Int64.reduceOfInt, Bool.false_eq_true, true_and, and_true, eq_self, not_true_eq_false, not_false_eq_true, false_imp_iff, true_imp_iff, forall_const, or_true, true_or, ne_eq, Nat.zero_add, Nat.add_zero, Nat.le_refl, reduceCtorEq, Ft19, Rf, hsz, hlt, hv, hc, shF, rrF K, ep, hvp, hcp, ← nI_succ]
            refine ⟨fun h3 => ?_, fun h3 => ?_⟩
            · refine nx _ ?_
              unfold rwB
              rw [ep, hcp, decide_eq_false (p := tw I 62 5 p ≠ I (a + 2) z) (fun x => x h3), Bool.and_false]
              rfl
            · refine bad ?_
              unfold rwB
              rw [ep] at h2'
              rw [ep, hcp, decide_eq_true (p := tw I 62 5 p ≠ I (a + 2) z) h3, decide_eq_true h2', decide_eq_true (p := I (a + 3) z = m) (Decidable.not_not.mp h1)]
              rfl
  refine pm_run_wp (n := 20) (stops := [2]) ?_
  simp only [st_iload_n, st_iload, st_lload_n, st_aload_n, st_aload, st_istore_n, st_istore, st_astore_n, st_astore, st_iconst, st_bipush, st_sipush, st_lconst, st_ldc, st_ldc_w, st_ldc2_w, st_getfield, st_putfieldI, st_putfieldR, st_getstatic, st_iaload, st_iastore, st_baload, st_bastore, st_laload, st_lastore, st_aaload, st_aastore, st_arraylength, st_iadd, st_isub, st_imul, st_iand, st_ior, st_ixor, st_ishl, st_ishr, st_idiv, st_irem, st_ineg, st_land, st_lor, st_lshl, st_i2l, st_l2i, st_i2b, st_i2s, st_i2c, st_lcmp, st_iinc, st_dupI, st_dupR, st_dup2, st_pop, st_goto, st_if_eq, st_icmp_eq, st_if_ne, st_icmp_ne, st_if_lt, st_icmp_lt, st_if_ge, st_icmp_ge, st_if_gt, st_icmp_gt, st_if_le, st_icmp_le, st_tsw, st_lsw, st_newarray, st_anewarray, st_new, st_invokevirtual, st_invokespecial, oin_ref, st_static, st_max, st_min, st_abs, st_copyi, st_copyl, st_ireturn, st_lreturn, st_areturn, st_return, rn_succ, inl_nil, inl_cons, rno_some, oi_some, ol_some, or_some, lk_cons, ins_nil, ins_cons, rm_nil, rm_int, rm_ref, rm_long, pop_0, pop_1, pop_2, pop_3, pop_4, pop_5, pop_6, la_nil, la_int, la_ref, la_long, cat_nil, cat_int, cat_ref, cat_long, call_succ, cont_some, cont_none, rcv_0, rcv_1, rcv_2, rcv_3, rcv_4, rcv_5, rcv_6, rcv_7, rcv_8, rcv_s, rf_some, ret_0, ret_10, ret_11, ret_ite, ite_0, sw_nil, sw_cons, ln_some, isk_some, al_some, ↓reduceIte, Nat.reduceAdd, Nat.reduceEqDiff, Nat.reduceLeDiff, Nat.reduceLT, Int32.reduceLT, Int32.reduceLE, Int32.reduceToNatClampNeg, Int32.reduceOfNat, Int32.reduceAdd, Int32.reduceSub, Int.reduceEq, Int.reduceNeg, Int.reduceLT, Int32.reduceOfInt, Int64.reduceOfInt, Bool.false_eq_true, true_and, and_true, eq_self, not_true_eq_false, not_false_eq_true, false_imp_iff, true_imp_iff, forall_const, or_true, true_or, ne_eq, Nat.zero_add, Nat.add_zero, Nat.le_refl, reduceCtorEq, Ft19]
  exact loop sz 0 [] (by omega) rfl (Or.inl rfl)
end PLI
