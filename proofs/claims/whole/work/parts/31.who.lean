/-! who can have been still, how loud one can have been, an afternoon gone through -/
theorem rw_vq {w w' : Vw} (h : VQ w w') {n : Nat} (hn : n ≤ 6) (F S T : Nat → Int32) (m : Int32) (z : Nat) : rwB n w F S T m z = rwB n w' F S T m z := by
  unfold rwB
  by_cases h2 : 0 ≤ F z ∧ F z ≤ nI n - 1
  · have hp : (F z).toNatClampNeg < 6 := by
      obtain ⟨p, hp, ep⟩ := nI_of (Int32.not_lt.mpr h2.1)
      rw [ep, nI_clamp hp]
      have hle := Int32.le_iff_toInt_le.mp h2.2
      rw [ep, nI_toInt hp] at hle
      cases n with
      | zero =>
        rw [show (nI 0 - 1).toInt = -1 from by decide] at hle
        omega
      | succ n' =>
        rw [nI_pred, nI_toInt (by omega)] at hle
        omega
    rw [h.2.1 5 _ (by omega) (by omega) hp]
  · rw [decide_eq_false h2, Bool.and_false, Bool.false_and, Bool.false_and]
theorem iso_vq {w w' : Vw} (h : VQ w w') {n : Nat} (hn : n ≤ 6) (F S T : Nat → Int32) (m : Int32) : ∀ z, isoB n w F S T m z = isoB n w' F S T m z
  | 0 => rfl
  | z + 1 => by
    unfold isoB
    rw [iso_vq h hn F S T m z, rw_vq h hn]
theorem al_vq {w w' : Vw} (h : VQ w w') {n : Nat} (hn : n ≤ 6) (k : ktp) (F S T : Nat → Int32) (sz : Nat) : ∀ j, alB n k w F S T sz j = alB n k w' F S T sz j
  | 0 => rfl
  | j + 1 => by
    unfold alB
    rw [al_vq h hn k F S T sz j, iso_vq (bts_vq h hn k j) hn]
noncomputable def whC (n : Nat) (k : ktp) (w : Vw) (F S T : Nat → Int32) (sz M : Nat) : Nat → Int32
  | 0 => 0
  | i + 1 => if alB n k (kpS w i) F S T sz (M + 1) = true then whC n k w F S T sz M i ||| (1 <<< (nI i &&& 31)) else whC n k w F S T sz M i
noncomputable def ldB (n : Nat) (k : ktp) (w : Vw) (F S T : Nat → Int32) (sz M p : Nat) (x : Nat) : Bool := alB n k (stV w 4 p (nI x)) F S T sz (M + 1)
noncomputable def ldN (n : Nat) (k : ktp) (w : Vw) (F S T : Nat → Int32) (sz M p : Nat) : Nat → Nat
  | 0 => 0
  | x + 1 => if ldB n k w F S T sz M p x = true then ldN n k w F S T sz M p x + 1 else ldN n k w F S T sz M p x
theorem ldN_le {n : Nat} {k : ktp} {w : Vw} {F S T : Nat → Int32} {sz M p : Nat} : ∀ x, ldN n k w F S T sz M p x ≤ x
  | 0 => Nat.le_refl _
  | x + 1 => by
    have := ldN_le (n := n) (k := k) (w := w) (F := F) (S := S) (T := T) (sz := sz) (M := M) (p := p) x
    unfold ldN
    split <;> omega
/-- a row of an afternoon: a beat, or one is still, or is not -/
noncomputable def afR (n : Nat) (k : ktp) (w : Vw) (f s : Int32) : Vw := if f = 0 then btC n k.1 k.2.1 k.2.2.1 (moC k.2.2.2 w) w else stV w 0 7 (ksC (w 0 7) s (if f = 1 then 1 else 0))
noncomputable def afC (n : Nat) (k : ktp) (w : Vw) (F S : Nat → Int32) : Nat → Vw
  | 0 => w
  | z + 1 => afR n k (afC n k w F S z) (F z) (S z)
theorem afR_vq {w w' : Vw} (h : VQ w w') {n : Nat} (hn : n ≤ 6) (k : ktp) (f s : Int32) : VQ (afR n k w f s) (afR n k w' f s) := by
  unfold afR
  by_cases hf : f = 0
  · rw [if_pos hf, if_pos hf]
    exact bt_vq h hn k
  · rw [if_neg hf, if_neg hf, h.1 7 (by omega)]
    exact stv_vq h _ _ _
theorem afC_vq {w w' : Vw} (h : VQ w w') {n : Nat} (hn : n ≤ 6) (k : ktp) (F S : Nat → Int32) : ∀ z, VQ (afC n k w F S z) (afC n k w' F S z)
  | 0 => h
  | z + 1 => afR_vq (afC_vq h hn k F S z) hn k _ _
theorem afR_np {n : Nat} {k : ktp} {w : Vw} {f s : Int32} : afR n k w f s 0 0 = w 0 0 := by
  unfold afR
  split
  · simp only [btC]
    rw [if_neg (by omega), if_neg (by omega)]
  · exact stv_ne (Or.inr (by omega))
theorem afC_np {n : Nat} {k : ktp} {w : Vw} {F S : Nat → Int32} : ∀ z, afC n k w F S z 0 0 = w 0 0
  | 0 => rfl
  | z + 1 => afR_np.trans (afC_np z)
section PLV
variable {X : pm_X} {d : Nat} {I : pm_I} {L : pm_L} {Q : pm_Q} {K : Nat → Nat} {q t : Nat}
theorem rw_lt {a N : Nat} (hr : isRw a N) : a + 3 < 30 ∧ N ≤ 10 := by rcases hr with ⟨rfl, rfl⟩ | ⟨rfl, rfl⟩ | ⟨rfl, rfl⟩ | ⟨rfl, rfl⟩ | ⟨rfl, rfl⟩ | ⟨rfl, rfl⟩ <;> omega
theorem w_whoCanBeStill {n a N sz M : Nat} {k : ktp} (hr : isRw a N) (hsz : I a 0 = nI sz) (hsN : sz ≤ N) (hM : mxT (I (a + 3)) sz = nI M) (hM9 : M < 900) (hn : I 37 0 = nI n) (hn6 : n ≤ 6) (hq : isK q) (hKq : K 37 = q) (hk : CK I q k) (hw : WK k)
    (h : ∀ (I' : pm_I) (K' : Nat → Nat), (∀ a, (a < 62 ∨ 72 < a) → I' a = I a) → KE K' K → Q (some (.int (whC n k (tw I 37) (I (a + 1)) (I (a + 2)) (I (a + 3)) sz M n))) SH I' L (RR K')) : pm_wp X (d + 8) 16 0 [(0, .ref 61), (1, .ref a)] [] 0 0 SH I L (RR K) Q := by
  obtain ⟨z1, z2, z3⟩ := isK_lt hq
  obtain ⟨y1, y2⟩ := rw_lt hr
  have loop : ∀ r j (I1 : pm_I) (K1 : Nat → Nat), j + r = n → (∀ a, (a < 62 ∨ 72 < a) → I1 a = I a) → KE K1 K →
      pm_wp X (d + 8) 16 4 [(0, .ref 61), (1, .ref a), (2, .int (whC n k (tw I 37) (I (a + 1)) (I (a + 2)) (I (a + 3)) sz M j)), (3, .int (nI j))] [] 0 0 SH I1 L (RR K1) Q := by
    intro r
    induction r with
    | zero =>
      intro j I1 K1 hj g1 g2
      obtain rfl : j = n := by omega
      have hn1 : I1 37 0 = nI j := by rw [g1 37 (by omega)]; exact hn
      refine pm_gos (n := 60) (stops := [4]) ?_
      simp only [st_iload_n, st_iload, st_lload_n, st_aload_n, st_aload, st_istore_n, st_istore, st_astore_n, st_astore, st_iconst, st_bipush, st_sipush, st_lconst, st_ldc, st_ldc_w, st_ldc2_w, st_getfield, st_putfieldI, st_putfieldR, st_getstatic, st_iaload, st_iastore, st_baload, st_bastore, st_laload, st_lastore, st_aaload, st_aastore, st_arraylength, st_iadd, st_isub, st_imul, st_iand, st_ior, st_ixor, st_ishl, st_ishr, st_idiv, st_irem, st_ineg, st_land, st_lor, st_lshl, st_i2l, st_l2i, st_i2b, st_i2s, st_i2c, st_lcmp, st_iinc, st_dupI, st_dupR, st_dup2, st_pop, st_goto, st_if_eq, st_icmp_eq, st_if_ne, st_icmp_ne, st_if_lt, st_icmp_lt, st_if_ge, st_icmp_ge, st_if_gt, st_icmp_gt, st_if_le, st_icmp_le, st_tsw, st_lsw, st_newarray, st_anewarray, st_new, st_invokevirtual, st_invokespecial, oin_ref, st_static, st_max, st_min, st_abs, st_copyi, st_copyl, st_ireturn, st_lreturn, st_areturn, st_return, rn_succ, inl_nil, inl_cons, rno_some, oi_some, ol_some, or_some, lk_cons, ins_nil, ins_cons, rm_nil, rm_int, rm_ref, rm_long, pop_0, pop_1, pop_2, pop_3, pop_4, pop_5, pop_6, la_nil, la_int, la_ref, la_long, cat_nil, cat_int, cat_ref, cat_long, call_succ, cont_some, cont_none, rcv_0, rcv_1, rcv_2, rcv_3, rcv_4, rcv_5, rcv_6, rcv_7, rcv_8, rcv_s, rf_some, ret_0, ret_10, ret_11, ret_ite, ite_0, sw_nil, sw_cons, ln_some, isk_some, al_some, ↓reduceIte, Nat.reduceAdd, Nat.reduceEqDiff, Nat.reduceLeDiff, Nat.reduceLT, Int32.reduceLT, Int32.reduceLE, Int32.reduceToNatClampNeg, Int32.reduceOfNat, Int32.reduceAdd, Int32.reduceSub, Int.reduceEq, Int.reduceNeg, Int.reduceLT, Int32.reduceOfInt, Int64.reduceOfInt, Bool.false_eq_true, true_and, and_true, eq_self, not_true_eq_false, not_false_eq_true, false_imp_iff, true_imp_iff, forall_const, or_true, true_or, ne_eq, Nat.zero_add, Nat.add_zero, Nat.le_refl, reduceCtorEq, Ft16, shF, rrF K1, hn1, Int32.le_refl]
      exact h I1 K1 g1 g2
    | succ r ih =>
      intro j I1 K1 hj g1 g2
      have hn1 : I1 37 0 = nI n := by rw [g1 37 (by omega)]; exact hn
      have hlt : ¬ nI n ≤ nI j := nI_ge (by omega) (by omega)
      have hK1 : K1 37 = q := (g2 37 (by omega)).trans hKq
      refine pm_gos (n := 60) (stops := [4]) ?_
      simp only [st_iload_n, st_iload, st_lload_n, st_aload_n, st_aload, st_istore_n, st_istore, st_astore_n, st_astore, st_iconst, st_bipush, st_sipush, st_lconst, st_ldc, st_ldc_w, st_ldc2_w, st_getfield, st_putfieldI, st_putfieldR, st_getstatic, st_iaload, st_iastore, st_baload, st_bastore, st_laload, st_lastore, st_aaload, st_aastore, st_arraylength, st_iadd, st_isub, st_imul, st_iand, st_ior, st_ixor, st_ishl, st_ishr, st_idiv, st_irem, st_ineg, st_land, st_lor, st_lshl, st_i2l, st_l2i, st_i2b, st_i2s, st_i2c, st_lcmp, st_iinc, st_dupI, st_dupR, st_dup2, st_pop, st_goto, st_if_eq, st_icmp_eq, st_if_ne, st_icmp_ne, st_if_lt, st_icmp_lt, st_if_ge, st_icmp_ge, st_if_gt, st_icmp_gt, st_if_le, st_icmp_le, st_tsw, st_lsw, st_newarray, st_anewarray, st_new, st_invokevirtual, st_invokespecial, oin_ref, st_static, st_max, st_min, st_abs, st_copyi, st_copyl, st_ireturn, st_lreturn, st_areturn, st_return, rn_succ, inl_nil, inl_cons, rno_some, oi_some, ol_some, or_some, lk_cons, ins_nil, ins_cons, rm_nil, rm_int, rm_ref, rm_long, pop_0, pop_1, pop_2, pop_3, pop_4, pop_5, pop_6, la_nil, la_int, la_ref, la_long, cat_nil, cat_int, cat_ref, cat_long, call_succ, cont_some, cont_none, rcv_0, rcv_1, rcv_2, rcv_3, rcv_4, rcv_5, rcv_6, rcv_7, rcv_8, rcv_s, rf_some, ret_0, ret_10, ret_11, ret_ite, ite_0, sw_nil, sw_cons, ln_some, isk_some, al_some, ↓reduceIte, Nat.reduceAdd, Nat.reduceEqDiff, Nat.reduceLeDiff, Nat.reduceLT, Int32.reduceLT, Int32.reduceLE, Int32.reduceToNatClampNeg, Int32.reduceOfNat, Int32.reduceAdd, Int32.reduceSub, Int.reduceEq, Int.reduceNeg, Int.reduceLT, Int32.reduceOfInt, Int64.reduceOfInt, Bool.false_eq_true, true_and, and_true, eq_self, not_true_eq_false, not_false_eq_true, false_imp_iff, true_imp_iff, forall_const, or_true, true_or, ne_eq, Nat.zero_add, Nat.add_zero, Nat.le_refl, reduceCtorEq, Ft16, hlt, shF, rrF K1, hn1]
      refine w_beg (K := K1) (by rw [hK1]; exact z1) (fun I2 K2 b1 b2 b3 b4 => ?_)
      have hn2 : I2 62 0 = nI n := (b1.1 0 (by omega)).trans hn1
      simp only [st_iload_n, st_iload, st_lload_n, st_aload_n, st_aload, st_istore_n, st_istore, st_astore_n, st_astore, st_iconst, st_bipush, st_sipush, st_lconst, st_ldc, st_ldc_w, st_ldc2_w, st_getfield, st_putfieldI, st_putfieldR, st_getstatic, st_iaload, st_iastore, st_baload, st_bastore, st_laload, st_lastore, st_aaload, st_aastore, st_arraylength, st_iadd, st_isub, st_imul, st_iand, st_ior, st_ixor, st_ishl, st_ishr, st_idiv, st_irem, st_ineg, st_land, st_lor, st_lshl, st_i2l, st_l2i, st_i2b, st_i2s, st_i2c, st_lcmp, st_iinc, st_dupI, st_dupR, st_dup2, st_pop, st_goto, st_if_eq, st_icmp_eq, st_if_ne, st_icmp_ne, st_if_lt, st_icmp_lt, st_if_ge, st_icmp_ge, st_if_gt, st_icmp_gt, st_if_le, st_icmp_le, st_tsw, st_lsw, st_newarray, st_anewarray, st_new, st_invokevirtual, st_invokespecial, oin_ref, st_static, st_max, st_min, st_abs, st_copyi, st_copyl, st_ireturn, st_lreturn, st_areturn, st_return, rn_succ, inl_nil, inl_cons, rno_some, oi_some, ol_some, or_some, lk_cons, ins_nil, ins_cons, rm_nil, rm_int, rm_ref, rm_long, pop_0, pop_1, pop_2, pop_3, pop_4, pop_5, pop_6, la_nil, la_int, la_ref, la_long, cat_nil, cat_int, cat_ref, cat_long, call_succ, cont_some, cont_none, rcv_0, rcv_1, rcv_2, rcv_3, rcv_4, rcv_5, rcv_6, rcv_7, rcv_8, rcv_s, rf_some, ret_0, ret_10, ret_11, ret_ite, ite_0, sw_nil, sw_cons, ln_some, isk_some, al_some, ↓reduceIte, Nat.reduceAdd, Nat.reduceEqDiff, Nat.reduceLeDiff, Nat.reduceLT, Int32.reduceLT, Int32.reduceLE, Int32.reduceToNatClampNeg, Int32.reduceOfNat, Int32.reduceAdd, Int32.reduceSub, Int.reduceEq, Int.reduceNeg, Int.reduceLT, Int32.reduceOfInt, Int64.reduceOfInt, Bool.false_eq_true, true_and, and_true, eq_self, not_true_eq_false, not_false_eq_true, false_imp_iff, true_imp_iff, forall_const, or_true, true_or, ne_eq, Nat.zero_add, Nat.add_zero, Nat.le_refl, reduceCtorEq, Ft16, shF, rrF K2]
      refine w_keepStill isT62 ?_
      simp only [st_iload_n, st_iload, st_lload_n, st_aload_n, st_aload, st_istore_n, st_istore, st_astore_n, st_astore, st_iconst, st_bipush, st_sipush, st_lconst, st_ldc, st_ldc_w, st_ldc2_w, st_getfield, st_putfieldI, st_putfieldR, st_getstatic, st_iaload, st_iastore, st_baload, st_bastore, st_laload, st_lastore, st_aaload, st_aastore, st_arraylength, st_iadd, st_isub, st_imul, st_iand, st_ior, st_ixor, st_ishl, st_ishr, st_idiv, st_irem, st_ineg, st_land, st_lor, st_lshl, st_i2l, st_l2i, st_i2b, st_i2s, st_i2c, st_lcmp, st_iinc, st_dupI, st_dupR, st_dup2, st_pop, st_goto, st_if_eq, st_icmp_eq, st_if_ne, st_icmp_ne, st_if_lt, st_icmp_lt, st_if_ge, st_icmp_ge, st_if_gt, st_icmp_gt, st_if_le, st_icmp_le, st_tsw, st_lsw, st_newarray, st_anewarray, st_new, st_invokevirtual, st_invokespecial, oin_ref, st_static, st_max, st_min, st_abs, st_copyi, st_copyl, st_ireturn, st_lreturn, st_areturn, st_return, rn_succ, inl_nil, inl_cons, rno_some, oi_some, ol_some, or_some, lk_cons, ins_nil, ins_cons, rm_nil, rm_int, rm_ref, rm_long, pop_0, pop_1, pop_2, pop_3, pop_4, pop_5, pop_6, la_nil, la_int, la_ref, la_long, cat_nil, cat_int, cat_ref, cat_long, call_succ, cont_some, cont_none, rcv_0, rcv_1, rcv_2, rcv_3, rcv_4, rcv_5, rcv_6, rcv_7, rcv_8, rcv_s, rf_some, ret_0, ret_10, ret_11, ret_ite, ite_0, sw_nil, sw_cons, ln_some, isk_some, al_some, ↓reduceIte, Nat.reduceAdd, Nat.reduceEqDiff, Nat.reduceLeDiff, Nat.reduceLT, Int32.reduceLT, Int32.reduceLE, Int32.reduceToNatClampNeg, Int32.reduceOfNat, Int32.reduceAdd, Int32.reduceSub, Int.reduceEq, Int.reduceNeg, Int.reduceLT, Int32.reduceOfInt, Int64.reduceOfInt, Bool.false_eq_true, true_and, and_true, eq_self, not_true_eq_false, not_false_eq_true, false_imp_iff, true_imp_iff, forall_const, or_true, true_or, ne_eq, Nat.zero_add, Nat.add_zero, Nat.le_refl, reduceCtorEq, Ft16, shF, rrF K2]
      have e37 : VQ (tw I1 37) (tw I 37) := ve_vq (fun f hf => g1 (37 + f) (by omega))
      have e2 : VQ (kpS (tw I2 62) j) (kpS (tw I 37) j) := kp_vq (vq_tr b1 e37) j
      have hn3 : pm_up I2 62 (pm_up (I2 62) 7 (ksC (I2 62 7) (nI j) 1)) 62 0 = nI n := by rw [pm_up_eq, pm_up_ne (by omega)]; exact hn2
      have ec : ∀ f, f ≤ 3 → pm_up I2 62 (pm_up (I2 62) 7 (ksC (I2 62 7) (nI j) 1)) (a + f) = I (a + f) := fun f hf => by
        rw [pm_up_ne (by omega), b2 (a + f) (by omega)]
        exact g1 (a + f) (by omega)
      have e0 := ec 0 (by omega)
      rw [Nat.add_zero] at e0
      refine w_allIsSo (n := n) (k := k) (q := q) (N := N) (sz := sz) (M := M) hr (by rw [e0]; exact hsz) hsN (by rw [ec 3 (by omega)]; exact hM) hM9 hn3 hn6 hq (b3.trans hK1) (ck_cg (fun f hf => ?_) hk) hw (fun I3 c1 => ?_)
      · rw [pm_up_ne (by omega), b2 (q + f) (by omega)]
        exact g1 (q + f) (by omega)
      · have et : tw (pm_up I2 62 (pm_up (I2 62) 7 (ksC (I2 62 7) (nI j) 1))) 62 = kpS (tw I2 62) j := tw_up I2 62 0 7 _
        rw [et, ec 1 (by omega), ec 2 (by omega), ec 3 (by omega), al_vq e2 hn6 k]
        have hfr : ∀ a, (a < 62 ∨ 72 < a) → I3 a = I a := fun a ha => by
          rw [c1 a ha, pm_up_ne (by omega), b2 a (by omega)]
          exact g1 a ha
        have fin := ih (j + 1) I3 K2 (by omega) hfr (ke_tr b4 g2)
        unfold whC at fin
        simp only [st_iload_n, st_iload, st_lload_n, st_aload_n, st_aload, st_istore_n, st_istore, st_astore_n, st_astore, st_iconst, st_bipush, st_sipush, st_lconst, st_ldc, st_ldc_w, st_ldc2_w, st_getfield, st_putfieldI, st_putfieldR, st_getstatic, st_iaload, st_iastore, st_baload, st_bastore, st_laload, st_lastore, st_aaload, st_aastore, st_arraylength, st_iadd, st_isub, st_imul, st_iand, st_ior, st_ixor, st_ishl, st_ishr, st_idiv, st_irem, st_ineg, st_land, st_lor, st_lshl, st_i2l, st_l2i, st_i2b, st_i2s, st_i2c, st_lcmp, st_iinc, st_dupI, st_dupR, st_dup2, st_pop, st_goto, st_if_eq, st_icmp_eq, st_if_ne, st_icmp_ne, st_if_lt, st_icmp_lt, st_if_ge, st_icmp_ge, st_if_gt, st_icmp_gt, st_if_le, st_icmp_le, st_tsw, st_lsw, st_newarray, st_anewarray, st_new, st_invokevirtual, st_invokespecial, oin_ref, st_static, st_max, st_min, st_abs, st_copyi, st_copyl, st_ireturn, st_lreturn, st_areturn, st_return, rn_succ, inl_nil, inl_cons, rno_some, oi_some, ol_some, or_some, lk_cons, ins_nil, ins_cons, rm_nil, rm_int, rm_ref, rm_long, pop_0, pop_1, pop_2, pop_3, pop_4, pop_5, pop_6, la_nil, la_int, la_ref, la_long, cat_nil, cat_int, cat_ref, cat_long, call_succ, cont_some, cont_none, rcv_0, rcv_1, rcv_2, rcv_3, rcv_4, rcv_5, rcv_6, rcv_7, rcv_8, rcv_s, rf_some, ret_0, ret_10, ret_11, ret_ite, ite_0, sw_nil, sw_cons, ln_some, isk_some, al_some, ↓reduceIte, Nat.reduceAdd, Nat.reduceEqDiff, Nat.reduceLeDiff, Nat.reduceLT, Int32.reduceLT, Int32.reduceLE, Int32.reduceToNatClampNeg, Int32.reduceOfNat, Int32.reduceAdd, Int32.reduceSub, Int.reduceEq, Int.reduceNeg, Int.reduceLT, Int32.reduceOfInt, Int64.reduceOfInt, Bool.false_eq_true, true_and, and_true, eq_self, not_true_eq_false, not_false_eq_true, false_imp_iff, true_imp_iff, forall_const, or_true, true_or, ne_eq, Nat.zero_add, Nat.add_zero, Nat.le_refl, reduceCtorEq, Ft16, bI_0, ← nI_succ]
        refine ⟨fun h1 => ?_, fun h1 => ?_⟩
        · rw [if_neg (by rw [h1]; decide)] at fin
          exact fin
        · rw [if_pos ((Bool.not_eq_false _).mp h1)] at fin
          exact fin
  refine pm_run_wp (n := 20) (stops := [4]) ?_
  simp only [st_iload_n, st_iload, st_lload_n, st_aload_n, st_aload, st_istore_n, st_istore, st_astore_n, st_astore, st_iconst, st_bipush, st_sipush, st_lconst, st_ldc, st_ldc_w, st_ldc2_w, st_getfield, st_putfieldI, st_putfieldR, st_getstatic, st_iaload, st_iastore, st_baload, st_bastore, st_laload, st_lastore, st_aaload, st_aastore, st_arraylength, st_iadd, st_isub, st_imul, st_iand, st_ior, st_ixor, st_ishl, st_ishr, st_idiv, st_irem, st_ineg, st_land, st_lor, st_lshl, st_i2l, st_l2i, st_i2b, st_i2s, st_i2c, st_lcmp, st_iinc, st_dupI, st_dupR, st_dup2, st_pop, st_goto, st_if_eq, st_icmp_eq, st_if_ne, st_icmp_ne, st_if_lt, st_icmp_lt, st_if_ge, st_icmp_ge, st_if_gt, st_icmp_gt, st_if_le, st_icmp_le, st_tsw, st_lsw, st_newarray, st_anewarray, st_new, st_invokevirtual, st_invokespecial, oin_ref, st_static, st_max, st_min, st_abs, st_copyi, st_copyl, st_ireturn, st_lreturn, st_areturn, st_return, rn_succ, inl_nil, inl_cons, rno_some, oi_some, ol_some, or_some, lk_cons, ins_nil, ins_cons, rm_nil, rm_int, rm_ref, rm_long, pop_0, pop_1, pop_2, pop_3, pop_4, pop_5, pop_6, la_nil, la_int, la_ref, la_long, cat_nil, cat_int, cat_ref, cat_long, call_succ, cont_some, cont_none, rcv_0, rcv_1, rcv_2, rcv_3, rcv_4, rcv_5, rcv_6, rcv_7, rcv_8, rcv_s, rf_some, ret_0, ret_10, ret_11, ret_ite, ite_0, sw_nil, sw_cons, ln_some, isk_some, al_some, ↓reduceIte, Nat.reduceAdd, Nat.reduceEqDiff, Nat.reduceLeDiff, Nat.reduceLT, Int32.reduceLT, Int32.reduceLE, Int32.reduceToNatClampNeg, Int32.reduceOfNat, Int32.reduceAdd, Int32.reduceSub, Int.reduceEq, Int.reduceNeg, Int.reduceLT, Int32.reduceOfInt, Int64.reduceOfInt, Bool.false_eq_true, true_and, and_true, eq_self, not_true_eq_false, not_false_eq_true, false_imp_iff, true_imp_iff, forall_const, or_true, true_or, ne_eq, Nat.zero_add, Nat.add_zero, Nat.le_refl, reduceCtorEq, Ft16]
  exact loop n 0 I K (by omega) (fun _ _ => rfl) (fun _ _ => rfl)
theorem w_soLoud {n a N sz M p : Nat} {b : Bool} {k : ktp} (hp : p < n) (hr : isRw a N) (hsz : I a 0 = nI sz) (hsN : sz ≤ N) (hM : mxT (I (a + 3)) sz = nI M) (hM9 : M < 900) (hn : I 37 0 = nI n) (hn6 : n ≤ 6) (hq : isK q) (hKq : K 37 = q) (hk : CK I q k) (hw : WK k)
    (h : ∀ (I' : pm_I) (K' : Nat → Nat), (∀ a, (a < 62 ∨ 72 < a) → I' a = I a) → KE K' K → Q (some (.int (if b = true then foN (firstC (ldB n k (tw I 37) (I (a + 1)) (I (a + 2)) (I (a + 3)) sz M p) 100) (-5) else nI (ldN n k (tw I 37) (I (a + 1)) (I (a + 2)) (I (a + 3)) sz M p 100)))) SH I' L (RR K')) : pm_wp X (d + 8) 17 0 [(0, .ref 61), (1, .int (nI p)), (2, .ref a), (3, .int (bI b))] [] 0 0 SH I L (RR K) Q := by
  obtain ⟨z1, z2, z3⟩ := isK_lt hq
  obtain ⟨y1, y2⟩ := rw_lt hr
  have hvk : vp_in (nI p) 6 := vi (by omega) (by omega)
  have hck : (nI p).toNatClampNeg = p := nI_clamp (by omega)
  have loop : ∀ r j (I1 : pm_I) (K1 : Nat → Nat), j + r = 100 → (b = true → firstC (ldB n k (tw I 37) (I (a + 1)) (I (a + 2)) (I (a + 3)) sz M p) j = none) → (∀ a, (a < 62 ∨ 72 < a) → I1 a = I a) → KE K1 K →
      pm_wp X (d + 8) 17 6 [(0, .ref 61), (1, .int (nI p)), (2, .ref a), (3, .int (bI b)), (4, .int (nI (if b = true then 0 else ldN n k (tw I 37) (I (a + 1)) (I (a + 2)) (I (a + 3)) sz M p j))), (5, .int (nI j))] [] 0 0 SH I1 L (RR K1) Q := by
    intro r
    induction r with
    | zero =>
      intro j I1 K1 hj g0 g1 g2
      obtain rfl : j = 100 := by omega
      have hlt : (99 : Int32) < nI 100 := by decide
      have fin := h I1 K1 g1 g2
      refine pm_gos (n := 60) (stops := [6]) ?_
      simp only [st_iload_n, st_iload, st_lload_n, st_aload_n, st_aload, st_istore_n, st_istore, st_astore_n, st_astore, st_iconst, st_bipush, st_sipush, st_lconst, st_ldc, st_ldc_w, st_ldc2_w, st_getfield, st_putfieldI, st_putfieldR, st_getstatic, st_iaload, st_iastore, st_baload, st_bastore, st_laload, st_lastore, st_aaload, st_aastore, st_arraylength, st_iadd, st_isub, st_imul, st_iand, st_ior, st_ixor, st_ishl, st_ishr, st_idiv, st_irem, st_ineg, st_land, st_lor, st_lshl, st_i2l, st_l2i, st_i2b, st_i2s, st_i2c, st_lcmp, st_iinc, st_dupI, st_dupR, st_dup2, st_pop, st_goto, st_if_eq, st_icmp_eq, st_if_ne, st_icmp_ne, st_if_lt, st_icmp_lt, st_if_ge, st_icmp_ge, st_if_gt, st_icmp_gt, st_if_le, st_icmp_le, st_tsw, st_lsw, st_newarray, st_anewarray, st_new, st_invokevirtual, st_invokespecial, oin_ref, st_static, st_max, st_min, st_abs, st_copyi, st_copyl, st_ireturn, st_lreturn, st_areturn, st_return, rn_succ, inl_nil, inl_cons, rno_some, oi_some, ol_some, or_some, lk_cons, ins_nil, ins_cons, rm_nil, rm_int, rm_ref, rm_long, pop_0, pop_1, pop_2, pop_3, pop_4, pop_5, pop_6, la_nil, la_int, la_ref, la_long, cat_nil, cat_int, cat_ref, cat_long, call_succ, cont_some, cont_none, rcv_0, rcv_1, rcv_2, rcv_3, rcv_4, rcv_5, rcv_6, rcv_7, rcv_8, rcv_s, rf_some, ret_0, ret_10, ret_11, ret_ite, ite_0, sw_nil, sw_cons, ln_some, isk_some, al_some, ↓reduceIte, Nat.reduceAdd, Nat.reduceEqDiff, Nat.reduceLeDiff, Nat.reduceLT, Int32.reduceLT, Int32.reduceLE, Int32.reduceToNatClampNeg, Int32.reduceOfNat, Int32.reduceAdd, Int32.reduceSub, Int.reduceEq, Int.reduceNeg, Int.reduceLT, Int32.reduceOfInt, Int64.reduceOfInt, Bool.false_eq_true, true_and, and_true, eq_self, not_true_eq_false, not_false_eq_true, false_imp_iff, true_imp_iff, forall_const, or_true, true_or, ne_eq, Nat.zero_add, Nat.add_zero, Nat.le_refl, reduceCtorEq, Ft17, hlt, bI_0]
      refine ⟨fun h1 => ?_, fun h1 => ?_⟩
      · rw [h1] at fin ⊢
        exact fin
      · have h1' := (Bool.not_eq_false _).mp h1
        rw [if_pos h1', g0 h1'] at fin
        exact fin
    | succ r ih =>
      intro j I1 K1 hj g0 g1 g2
      have hn1 : I1 37 0 = nI n := by rw [g1 37 (by omega)]; exact hn
      have hlt : ¬ (99 : Int32) < nI j := nI_nlt (a := 99) (by omega) (by omega)
      have hK1 : K1 37 = q := (g2 37 (by omega)).trans hKq
      refine pm_gos (n := 60) (stops := [6]) ?_
      simp only [st_iload_n, st_iload, st_lload_n, st_aload_n, st_aload, st_istore_n, st_istore, st_astore_n, st_astore, st_iconst, st_bipush, st_sipush, st_lconst, st_ldc, st_ldc_w, st_ldc2_w, st_getfield, st_putfieldI, st_putfieldR, st_getstatic, st_iaload, st_iastore, st_baload, st_bastore, st_laload, st_lastore, st_aaload, st_aastore, st_arraylength, st_iadd, st_isub, st_imul, st_iand, st_ior, st_ixor, st_ishl, st_ishr, st_idiv, st_irem, st_ineg, st_land, st_lor, st_lshl, st_i2l, st_l2i, st_i2b, st_i2s, st_i2c, st_lcmp, st_iinc, st_dupI, st_dupR, st_dup2, st_pop, st_goto, st_if_eq, st_icmp_eq, st_if_ne, st_icmp_ne, st_if_lt, st_icmp_lt, st_if_ge, st_icmp_ge, st_if_gt, st_icmp_gt, st_if_le, st_icmp_le, st_tsw, st_lsw, st_newarray, st_anewarray, st_new, st_invokevirtual, st_invokespecial, oin_ref, st_static, st_max, st_min, st_abs, st_copyi, st_copyl, st_ireturn, st_lreturn, st_areturn, st_return, rn_succ, inl_nil, inl_cons, rno_some, oi_some, ol_some, or_some, lk_cons, ins_nil, ins_cons, rm_nil, rm_int, rm_ref, rm_long, pop_0, pop_1, pop_2, pop_3, pop_4, pop_5, pop_6, la_nil, la_int, la_ref, la_long, cat_nil, cat_int, cat_ref, cat_long, call_succ, cont_some, cont_none, rcv_0, rcv_1, rcv_2, rcv_3, rcv_4, rcv_5, rcv_6, rcv_7, rcv_8, rcv_s, rf_some, ret_0, ret_10, ret_11, ret_ite, ite_0, sw_nil, sw_cons, ln_some, isk_some, al_some, ↓reduceIte, Nat.reduceAdd, Nat.reduceEqDiff, Nat.reduceLeDiff, Nat.reduceLT, Int32.reduceLT, Int32.reduceLE, Int32.reduceToNatClampNeg, Int32.reduceOfNat, Int32.reduceAdd, Int32.reduceSub, Int.reduceEq, Int.reduceNeg, Int.reduceLT, Int32.reduceOfInt, Int64.reduceOfInt, Bool.false_eq_true, true_and, and_true, eq_self, not_true_eq_false, not_false_eq_true, false_imp_iff, true_imp_iff, forall_const, or_true, true_or, ne_eq, Nat.zero_add, Nat.add_zero, Nat.le_refl, reduceCtorEq, Ft17, hlt, shF, rrF K1]
      refine w_beg (K := K1) (by rw [hK1]; exact z1) (fun I2 K2 b1 b2 b3 b4 => ?_)
      have hn2 : I2 62 0 = nI n := (b1.1 0 (by omega)).trans hn1
      simp only [st_iload_n, st_iload, st_lload_n, st_aload_n, st_aload, st_istore_n, st_istore, st_astore_n, st_astore, st_iconst, st_bipush, st_sipush, st_lconst, st_ldc, st_ldc_w, st_ldc2_w, st_getfield, st_putfieldI, st_putfieldR, st_getstatic, st_iaload, st_iastore, st_baload, st_bastore, st_laload, st_lastore, st_aaload, st_aastore, st_arraylength, st_iadd, st_isub, st_imul, st_iand, st_ior, st_ixor, st_ishl, st_ishr, st_idiv, st_irem, st_ineg, st_land, st_lor, st_lshl, st_i2l, st_l2i, st_i2b, st_i2s, st_i2c, st_lcmp, st_iinc, st_dupI, st_dupR, st_dup2, st_pop, st_goto, st_if_eq, st_icmp_eq, st_if_ne, st_icmp_ne, st_if_lt, st_icmp_lt, st_if_ge, st_icmp_ge, st_if_gt, st_icmp_gt, st_if_le, st_icmp_le, st_tsw, st_lsw, st_newarray, st_anewarray, st_new, st_invokevirtual, st_invokespecial, oin_ref, st_static, st_max, st_min, st_abs, st_copyi, st_copyl, st_ireturn, st_lreturn, st_areturn, st_return, rn_succ, inl_nil, inl_cons, rno_some, oi_some, ol_some, or_some, lk_cons, ins_nil, ins_cons, rm_nil, rm_int, rm_ref, rm_long, pop_0, pop_1, pop_2, pop_3, pop_4, pop_5, pop_6, la_nil, la_int, la_ref, la_long, cat_nil, cat_int, cat_ref, cat_long, call_succ, cont_some, cont_none, rcv_0, rcv_1, rcv_2, rcv_3, rcv_4, rcv_5, rcv_6, rcv_7, rcv_8, rcv_s, rf_some, ret_0, ret_10, ret_11, ret_ite, ite_0, sw_nil, sw_cons, ln_some, isk_some, al_some, ↓reduceIte, Nat.reduceAdd, Nat.reduceEqDiff, Nat.reduceLeDiff, Nat.reduceLT, Int32.reduceLT, Int32.reduceLE, Int32.reduceToNatClampNeg, Int32.reduceOfNat, Int32.reduceAdd, Int32.reduceSub, Int.reduceEq, Int.reduceNeg, Int.reduceLT, Int32.reduceOfInt, Int64.reduceOfInt, Bool.false_eq_true, true_and, and_true, eq_self, not_true_eq_false, not_false_eq_true, false_imp_iff, true_imp_iff, forall_const, or_true, true_or, ne_eq, Nat.zero_add, Nat.add_zero, Nat.le_refl, reduceCtorEq, Ft17, shF, rrF K2, hvk, hck]
      have e37 : VQ (tw I1 37) (tw I 37) := ve_vq (fun f hf => g1 (37 + f) (by omega))
      have e2 : VQ (stV (tw I2 62) 4 p (nI j)) (stV (tw I 37) 4 p (nI j)) := stv_vq (vq_tr b1 e37) _ _ _
      have hn3 : pm_up I2 66 (pm_up (I2 66) p (nI j)) 62 0 = nI n := by rw [pm_up_ne (show (62 : Nat) ≠ 66 by omega)]; exact hn2
      have ec : ∀ f, f ≤ 3 → pm_up I2 66 (pm_up (I2 66) p (nI j)) (a + f) = I (a + f) := fun f hf => by
        rw [pm_up_ne (by omega), b2 (a + f) (by omega)]
        exact g1 (a + f) (by omega)
      have e0 := ec 0 (by omega)
      rw [Nat.add_zero] at e0
      refine w_allIsSo (n := n) (k := k) (q := q) (N := N) (sz := sz) (M := M) hr (by rw [e0]; exact hsz) hsN (by rw [ec 3 (by omega)]; exact hM) hM9 hn3 hn6 hq (b3.trans hK1) (ck_cg (fun f hf => ?_) hk) hw (fun I3 c1 => ?_)
      · rw [pm_up_ne (by omega), b2 (q + f) (by omega)]
        exact g1 (q + f) (by omega)
      · have et : tw (pm_up I2 66 (pm_up (I2 66) p (nI j))) 62 = stV (tw I2 62) 4 p (nI j) := tw_up I2 62 4 p _
        rw [et, ec 1 (by omega), ec 2 (by omega), ec 3 (by omega), al_vq e2 hn6 k]
        have hfr : ∀ a, (a < 62 ∨ 72 < a) → I3 a = I a := fun a ha => by
          rw [c1 a ha, pm_up_ne (by omega), b2 a (by omega)]
          exact g1 a ha
        have hldd : alB n k (stV (tw I 37) 4 p (nI j)) (I (a + 1)) (I (a + 2)) (I (a + 3)) sz (M + 1) = ldB n k (tw I 37) (I (a + 1)) (I (a + 2)) (I (a + 3)) sz M p j := rfl
        rw [hldd]
        have nx := ih (j + 1) I3 K2 (by omega)
        have hfs : firstC (ldB n k (tw I 37) (I (a + 1)) (I (a + 2)) (I (a + 3)) sz M p) j = none → firstC (ldB n k (tw I 37) (I (a + 1)) (I (a + 2)) (I (a + 3)) sz M p) (j + 1) = if ldB n k (tw I 37) (I (a + 1)) (I (a + 2)) (I (a + 3)) sz M p j = true then some j else none := fun e => by
          rw [firstC, e]
        simp only [st_iload_n, st_iload, st_lload_n, st_aload_n, st_aload, st_istore_n, st_istore, st_astore_n, st_astore, st_iconst, st_bipush, st_sipush, st_lconst, st_ldc, st_ldc_w, st_ldc2_w, st_getfield, st_putfieldI, st_putfieldR, st_getstatic, st_iaload, st_iastore, st_baload, st_bastore, st_laload, st_lastore, st_aaload, st_aastore, st_arraylength, st_iadd, st_isub, st_imul, st_iand, st_ior, st_ixor, st_ishl, st_ishr, st_idiv, st_irem, st_ineg, st_land, st_lor, st_lshl, st_i2l, st_l2i, st_i2b, st_i2s, st_i2c, st_lcmp, st_iinc, st_dupI, st_dupR, st_dup2, st_pop, st_goto, st_if_eq, st_icmp_eq, st_if_ne, st_icmp_ne, st_if_lt, st_icmp_lt, st_if_ge, st_icmp_ge, st_if_gt, st_icmp_gt, st_if_le, st_icmp_le, st_tsw, st_lsw, st_newarray, st_anewarray, st_new, st_invokevirtual, st_invokespecial, oin_ref, st_static, st_max, st_min, st_abs, st_copyi, st_copyl, st_ireturn, st_lreturn, st_areturn, st_return, rn_succ, inl_nil, inl_cons, rno_some, oi_some, ol_some, or_some, lk_cons, ins_nil, ins_cons, rm_nil, rm_int, rm_ref, rm_long, pop_0, pop_1, pop_2, pop_3, pop_4, pop_5, pop_6, la_nil, la_int, la_ref, la_long, cat_nil, cat_int, cat_ref, cat_long, call_succ, cont_some, cont_none, rcv_0, rcv_1, rcv_2, rcv_3, rcv_4, rcv_5, rcv_6, rcv_7, rcv_8, rcv_s, rf_some, ret_0, ret_10, ret_11, ret_ite, ite_0, sw_nil, sw_cons, ln_some, isk_some, al_some, ↓reduceIte, Nat.reduceAdd, Nat.reduceEqDiff, Nat.reduceLeDiff, Nat.reduceLT, Int32.reduceLT, Int32.reduceLE, Int32.reduceToNatClampNeg, Int32.reduceOfNat, Int32.reduceAdd, Int32.reduceSub, Int.reduceEq, Int.reduceNeg, Int.reduceLT, Int32.reduceOfInt, Int64.reduceOfInt, Bool.false_eq_true, true_and, and_true, eq_self, not_true_eq_false, not_false_eq_true, false_imp_iff, true_imp_iff, forall_const, or_true, true_or, ne_eq, Nat.zero_add, Nat.add_zero, Nat.le_refl, reduceCtorEq, Ft17, bI_0, ← nI_succ]
        refine ⟨fun h1 => ?_, fun h1 => ⟨fun h2 => ?_, fun h2 => ?_⟩⟩
        · have := nx (fun hb => by rw [hfs (g0 hb), h1]; rfl) hfr (ke_tr b4 g2)
          have hz : ¬ ldB n k (tw I 37) (I (a + 1)) (I (a + 2)) (I (a + 3)) sz M p j = true := by rw [h1]; decide
          rw [ldN, if_neg hz] at this
          exact this
        · have := nx (fun hb => by rw [h2] at hb; cases hb) hfr (ke_tr b4 g2)
          rw [ldN, if_pos ((Bool.not_eq_false _).mp h1), if_neg (by rw [h2]; decide)] at this
          rw [if_neg (by rw [h2]; decide)]
          exact this
        · have h2' := (Bool.not_eq_false _).mp h2
          have fin := h I3 K2 hfr (ke_tr b4 g2)
          have hx := hfs (g0 h2')
          rw [if_pos ((Bool.not_eq_false _).mp h1)] at hx
          rw [if_pos h2', show 100 = j + 1 + r by omega, first_st hx] at fin
          exact fin
  refine pm_run_wp (n := 20) (stops := [6]) ?_
  simp only [st_iload_n, st_iload, st_lload_n, st_aload_n, st_aload, st_istore_n, st_istore, st_astore_n, st_astore, st_iconst, st_bipush, st_sipush, st_lconst, st_ldc, st_ldc_w, st_ldc2_w, st_getfield, st_putfieldI, st_putfieldR, st_getstatic, st_iaload, st_iastore, st_baload, st_bastore, st_laload, st_lastore, st_aaload, st_aastore, st_arraylength, st_iadd, st_isub, st_imul, st_iand, st_ior, st_ixor, st_ishl, st_ishr, st_idiv, st_irem, st_ineg, st_land, st_lor, st_lshl, st_i2l, st_l2i, st_i2b, st_i2s, st_i2c, st_lcmp, st_iinc, st_dupI, st_dupR, st_dup2, st_pop, st_goto, st_if_eq, st_icmp_eq, st_if_ne, st_icmp_ne, st_if_lt, st_icmp_lt, st_if_ge, st_icmp_ge, st_if_gt, st_icmp_gt, st_if_le, st_icmp_le, st_tsw, st_lsw, st_newarray, st_anewarray, st_new, st_invokevirtual, st_invokespecial, oin_ref, st_static, st_max, st_min, st_abs, st_copyi, st_copyl, st_ireturn, st_lreturn, st_areturn, st_return, rn_succ, inl_nil, inl_cons, rno_some, oi_some, ol_some, or_some, lk_cons, ins_nil, ins_cons, rm_nil, rm_int, rm_ref, rm_long, pop_0, pop_1, pop_2, pop_3, pop_4, pop_5, pop_6, la_nil, la_int, la_ref, la_long, cat_nil, cat_int, cat_ref, cat_long, call_succ, cont_some, cont_none, rcv_0, rcv_1, rcv_2, rcv_3, rcv_4, rcv_5, rcv_6, rcv_7, rcv_8, rcv_s, rf_some, ret_0, ret_10, ret_11, ret_ite, ite_0, sw_nil, sw_cons, ln_some, isk_some, al_some, ↓reduceIte, Nat.reduceAdd, Nat.reduceEqDiff, Nat.reduceLeDiff, Nat.reduceLT, Int32.reduceLT, Int32.reduceLE, Int32.reduceToNatClampNeg, Int32.reduceOfNat, Int32.reduceAdd, Int32.reduceSub, Int.reduceEq, Int.reduceNeg, Int.reduceLT, Int32.reduceOfInt, Int64.reduceOfInt, Bool.false_eq_true, true_and, and_true, eq_self, not_true_eq_false, not_false_eq_true, false_imp_iff, true_imp_iff, forall_const, or_true, true_or, ne_eq, Nat.zero_add, Nat.add_zero, Nat.le_refl, reduceCtorEq, Ft17]
  have := loop 100 0 I K (by omega) (fun _ => rfl) (fun _ _ => rfl) (fun _ _ => rfl)
  rw [show (if b = true then 0 else ldN n k (tw I 37) (I (a + 1)) (I (a + 2)) (I (a + 3)) sz M p 0) = 0 from by split <;> rfl] at this
  exact this
theorem w_behind {n a N sz : Nat} {k : ktp} (hr : isRw a N) (hsz : I a 0 = nI sz) (hsN : sz ≤ N) (hn : I 37 0 = nI n) (hn6 : n ≤ 6) (hq : isK q) (hKq : K 37 = q) (hk : CK I q k) (hw : WK k)
    (h : ∀ (I' : pm_I) (K' : Nat → Nat), VQ (tw I' 62) (afC n k (tw I 37) (I (a + 1)) (I (a + 2)) sz) → (∀ a, (a < 62 ∨ 72 < a) → I' a = I a) → KE K' K → Q (some (.ref 62)) SH I' L (RR K')) : pm_wp X (d + 6) 21 0 [(0, .ref 61), (1, .ref a)] [] 0 0 SH I L (RR K) Q := by
  obtain ⟨z1, z2, z3⟩ := isK_lt hq
  obtain ⟨y1, y2⟩ := rw_lt hr
  have loop : ∀ r j (I1 : pm_I) (K1 : Nat → Nat), j + r = sz → VQ (tw I1 62) (afC n k (tw I 37) (I (a + 1)) (I (a + 2)) j) → (∀ a, (a < 62 ∨ 72 < a) → I1 a = I a) → K1 62 = q → KE K1 K →
      pm_wp X (d + 6) 21 6 [(0, .ref 61), (1, .ref a), (2, .int (nI j))] [] 0 0 SH I1 L (RR K1) Q := by
    intro r
    induction r with
    | zero =>
      intro j I1 K1 hj g0 g1 g2 g3
      obtain rfl : j = sz := by omega
      have Rf := isRwF (K := K1) hr
      have hsz1 : I1 a 0 = nI j := by rw [g1 a (by omega)]; exact hsz
      refine pm_gos (n := 60) (stops := [6]) ?_
      simp only [st_iload_n, st_iload, st_lload_n, st_aload_n, st_aload, st_istore_n, st_istore, st_astore_n, st_astore, st_iconst, st_bipush, st_sipush, st_lconst, st_ldc, st_ldc_w, st_ldc2_w, st_getfield, st_putfieldI, st_putfieldR, st_getstatic, st_iaload, st_iastore, st_baload, st_bastore, st_laload, st_lastore, st_aaload, st_aastore, st_arraylength, st_iadd, st_isub, st_imul, st_iand, st_ior, st_ixor, st_ishl, st_ishr, st_idiv, st_irem, st_ineg, st_land, st_lor, st_lshl, st_i2l, st_l2i, st_i2b, st_i2s, st_i2c, st_lcmp, st_iinc, st_dupI, st_dupR, st_dup2, st_pop, st_goto, st_if_eq, st_icmp_eq, st_if_ne, st_icmp_ne, st_if_lt, st_icmp_lt, st_if_ge, st_icmp_ge, st_if_gt, st_icmp_gt, st_if_le, st_icmp_le, st_tsw, st_lsw, st_newarray, st_anewarray, st_new, st_invokevirtual, st_invokespecial, oin_ref, st_static, st_max, st_min, st_abs, st_copyi, st_copyl, st_ireturn, st_lreturn, st_areturn, st_return, rn_succ, inl_nil, inl_cons, rno_some, oi_some, ol_some, or_some, lk_cons, ins_nil, ins_cons, rm_nil, rm_int, rm_ref, rm_long, pop_0, pop_1, pop_2, pop_3, pop_4, pop_5, pop_6, la_nil, la_int, la_ref, la_long, cat_nil, cat_int, cat_ref, cat_long, call_succ, cont_some, cont_none, rcv_0, rcv_1, rcv_2, rcv_3, rcv_4, rcv_5, rcv_6, rcv_7, rcv_8, rcv_s, rf_some, ret_0, ret_10, ret_11, ret_ite, ite_0, sw_nil, sw_cons, ln_some, isk_some, al_some, ↓reduceIte, Nat.reduceAdd, Nat.reduceEqDiff, Nat.reduceLeDiff, Nat.reduceLT, Int32.reduceLT, Int32.reduceLE, Int32.reduceToNatClampNeg, Int32.reduceOfNat, Int32.reduceAdd, Int32.reduceSub, Int.reduceEq, Int.reduceNeg, Int.reduceLT, Int32.reduceOfInt, Int64.reduceOfInt, Bool.false_eq_true, true_and, and_true, eq_self, not_true_eq_false, not_false_eq_true, false_imp_iff, true_imp_iff, forall_const, or_true, true_or, ne_eq, Nat.zero_add, Nat.add_zero, Nat.le_refl, reduceCtorEq, Ft21, shF, rrF K1, Rf, hsz1, Int32.le_refl]
      exact h I1 K1 g0 g1 g3
    | succ r ih =>
      intro j I1 K1 hj g0 g1 g2 g3
      have Rf := isRwF (K := K1) hr
      have hsz1 : I1 a 0 = nI sz := by rw [g1 a (by omega)]; exact hsz
      have hn1 : I1 62 0 = nI n := (g0.1 0 (by omega)).trans ((afC_np j).trans hn)
      have hlt : ¬ nI sz ≤ nI j := nI_ge (by omega) (by omega)
      have hv : vp_in (nI j) N := vi (by omega) (by omega)
      have hc : (nI j).toNatClampNeg = j := nI_clamp (by omega)
      have ea1 : I1 (a + 1) j = I (a + 1) j := by rw [g1 (a + 1) (by omega)]
      have ea2 : I1 (a + 2) j = I (a + 2) j := by rw [g1 (a + 2) (by omega)]
      have nx := fun I3 => ih (j + 1) I3 K1 (by omega)
      have stl : ∀ b : Int32, b = (if I (a + 1) j = 1 then 1 else 0) → ¬ I (a + 1) j = 0 → pm_wp X (d + 6) 21 6 [(0, .ref 61), (1, .ref a), (2, .int (nI (j + 1)))] [] 0 0 SH (pm_up I1 62 (pm_up (I1 62) 7 (ksC (I1 62 7) (I (a + 2) j) b))) L (RR K1) Q := by
        intro b hb h0
        refine nx _ ?_ (fun a ha => by rw [pm_up_ne (by omega)]; exact g1 a ha) g2 g3
        have et : tw (pm_up I1 62 (pm_up (I1 62) 7 (ksC (I1 62 7) (I (a + 2) j) b))) 62 = stV (tw I1 62) 0 7 (ksC (I1 62 7) (I (a + 2) j) b) := tw_up I1 62 0 7 _
        rw [et]
        unfold afC afR
        rw [if_neg h0, ← hb, ← g0.1 7 (by omega)]
        exact stv_vq g0 _ _ _
      refine pm_gos (n := 60) (stops := [6]) ?_
      simp only [st_iload_n, st_iload, st_lload_n, st_aload_n, st_aload, st_istore_n, st_istore, st_astore_n, st_astore, st_iconst, st_bipush, st_sipush, st_lconst, st_ldc, st_ldc_w, st_ldc2_w, st_getfield, st_putfieldI, st_putfieldR, st_getstatic, st_iaload, st_iastore, st_baload, st_bastore, st_laload, st_lastore, st_aaload, st_aastore, st_arraylength, st_iadd, st_isub, st_imul, st_iand, st_ior, st_ixor, st_ishl, st_ishr, st_idiv, st_irem, st_ineg, st_land, st_lor, st_lshl, st_i2l, st_l2i, st_i2b, st_i2s, st_i2c, st_lcmp, st_iinc, st_dupI, st_dupR, st_dup2, st_pop, st_goto, st_if_eq, st_icmp_eq, st_if_ne, st_icmp_ne, st_if_lt, st_icmp_lt, st_if_ge, st_icmp_ge, st_if_gt, st_icmp_gt, st_if_le, st_icmp_le, st_tsw, st_lsw, st_newarray, st_anewarray, st_new, st_invokevirtual, st_invokespecial, oin_ref, st_static, st_max, st_min, st_abs, st_copyi, st_copyl, st_ireturn, st_lreturn, st_areturn, st_return, rn_succ, inl_nil, inl_cons, rno_some, oi_some, ol_some, or_some, lk_cons, ins_nil, ins_cons, rm_nil, rm_int, rm_ref, rm_long, pop_0, pop_1, pop_2, pop_3, pop_4, pop_5, pop_6, la_nil, la_int, la_ref, la_long, cat_nil, cat_int, cat_ref, cat_long, call_succ, cont_some, cont_none, rcv_0, rcv_1, rcv_2, rcv_3, rcv_4, rcv_5, rcv_6, rcv_7, rcv_8, rcv_s, rf_some, ret_0, ret_10, ret_11, ret_ite, ite_0, sw_nil, sw_cons, ln_some, isk_some, al_some, ↓reduceIte, Nat.reduceAdd, Nat.reduceEqDiff, Nat.reduceLeDiff, Nat.reduceLT, Int32.reduceLT, Int32.reduceLE, Int32.reduceToNatClampNeg, Int32.reduceOfNat, Int32.reduceAdd, Int32.reduceSub, Int.reduceEq, Int.reduceNeg, Int.reduceLT, Int32.reduceOfInt, Int64.reduceOfInt, Bool.false_eq_true, true_and, and_true, eq_self, not_true_eq_false, not_false_eq_true, false_imp_iff, true_imp_iff, forall_const, or_true, true_or, ne_eq, Nat.zero_add, Nat.add_zero, Nat.le_refl, reduceCtorEq, Ft21, shF, rrF K1, Rf, hsz1, hlt, hv, hc, ea1, ea2]
      refine ⟨fun h1 => ⟨fun h2 => ?_, fun h2 => ?_⟩, fun h1 => ?_⟩
      · refine w_keepStill isT62 ?_
        simp only [st_iload_n, st_iload, st_lload_n, st_aload_n, st_aload, st_istore_n, st_istore, st_astore_n, st_astore, st_iconst, st_bipush, st_sipush, st_lconst, st_ldc, st_ldc_w, st_ldc2_w, st_getfield, st_putfieldI, st_putfieldR, st_getstatic, st_iaload, st_iastore, st_baload, st_bastore, st_laload, st_lastore, st_aaload, st_aastore, st_arraylength, st_iadd, st_isub, st_imul, st_iand, st_ior, st_ixor, st_ishl, st_ishr, st_idiv, st_irem, st_ineg, st_land, st_lor, st_lshl, st_i2l, st_l2i, st_i2b, st_i2s, st_i2c, st_lcmp, st_iinc, st_dupI, st_dupR, st_dup2, st_pop, st_goto, st_if_eq, st_icmp_eq, st_if_ne, st_icmp_ne, st_if_lt, st_icmp_lt, st_if_ge, st_icmp_ge, st_if_gt, st_icmp_gt, st_if_le, st_icmp_le, st_tsw, st_lsw, st_newarray, st_anewarray, st_new, st_invokevirtual, st_invokespecial, oin_ref, st_static, st_max, st_min, st_abs, st_copyi, st_copyl, st_ireturn, st_lreturn, st_areturn, st_return, rn_succ, inl_nil, inl_cons, rno_some, oi_some, ol_some, or_some, lk_cons, ins_nil, ins_cons, rm_nil, rm_int, rm_ref, rm_long, pop_0, pop_1, pop_2, pop_3, pop_4, pop_5, pop_6, la_nil, la_int, la_ref, la_long, cat_nil, cat_int, cat_ref, cat_long, call_succ, cont_some, cont_none, rcv_0, rcv_1, rcv_2, rcv_3, rcv_4, rcv_5, rcv_6, rcv_7, rcv_8, rcv_s, rf_some, ret_0, ret_10, ret_11, ret_ite, ite_0, sw_nil, sw_cons, ln_some, isk_some, al_some, ↓reduceIte, Nat.reduceAdd, Nat.reduceEqDiff, Nat.reduceLeDiff, Nat.reduceLT, Int32.reduceLT, Int32.reduceLE, Int32.reduceToNatClampNeg, Int32.reduceOfNat, Int32.reduceAdd, Int32.reduceSub, Int.reduceEq, Int.reduceNeg, Int.reduceLT, Int32.reduceOfInt, Int64.reduceOfInt, Bool.false_eq_true, true_and, and_true, eq_self, not_true_eq_false, not_false_eq_true, false_imp_iff, true_imp_iff, forall_const, or_true, true_or, ne_eq, Nat.zero_add, Nat.add_zero, Nat.le_refl, reduceCtorEq, Ft21, ← nI_succ]
        exact stl 0 (by rw [if_neg h2]) h1
      · refine w_keepStill isT62 ?_
        simp only [st_iload_n, st_iload, st_lload_n, st_aload_n, st_aload, st_istore_n, st_istore, st_astore_n, st_astore, st_iconst, st_bipush, st_sipush, st_lconst, st_ldc, st_ldc_w, st_ldc2_w, st_getfield, st_putfieldI, st_putfieldR, st_getstatic, st_iaload, st_iastore, st_baload, st_bastore, st_laload, st_lastore, st_aaload, st_aastore, st_arraylength, st_iadd, st_isub, st_imul, st_iand, st_ior, st_ixor, st_ishl, st_ishr, st_idiv, st_irem, st_ineg, st_land, st_lor, st_lshl, st_i2l, st_l2i, st_i2b, st_i2s, st_i2c, st_lcmp, st_iinc, st_dupI, st_dupR, st_dup2, st_pop, st_goto, st_if_eq, st_icmp_eq, st_if_ne, st_icmp_ne, st_if_lt, st_icmp_lt, st_if_ge, st_icmp_ge, st_if_gt, st_icmp_gt, st_if_le, st_icmp_le, st_tsw, st_lsw, st_newarray, st_anewarray, st_new, st_invokevirtual, st_invokespecial, oin_ref, st_static, st_max, st_min, st_abs, st_copyi, st_copyl, st_ireturn, st_lreturn, st_areturn, st_return, rn_succ, inl_nil, inl_cons, rno_some, oi_some, ol_some, or_some, lk_cons, ins_nil, ins_cons, rm_nil, rm_int, rm_ref, rm_long, pop_0, pop_1, pop_2, pop_3, pop_4, pop_5, pop_6, la_nil, la_int, la_ref, la_long, cat_nil, cat_int, cat_ref, cat_long, call_succ, cont_some, cont_none, rcv_0, rcv_1, rcv_2, rcv_3, rcv_4, rcv_5, rcv_6, rcv_7, rcv_8, rcv_s, rf_some, ret_0, ret_10, ret_11, ret_ite, ite_0, sw_nil, sw_cons, ln_some, isk_some, al_some, ↓reduceIte, Nat.reduceAdd, Nat.reduceEqDiff, Nat.reduceLeDiff, Nat.reduceLT, Int32.reduceLT, Int32.reduceLE, Int32.reduceToNatClampNeg, Int32.reduceOfNat, Int32.reduceAdd, Int32.reduceSub, Int.reduceEq, Int.reduceNeg, Int.reduceLT, Int32.reduceOfInt, Int64.reduceOfInt, Bool.false_eq_true, true_and, and_true, eq_self, not_true_eq_false, not_false_eq_true, false_imp_iff, true_imp_iff, forall_const, or_true, true_or, ne_eq, Nat.zero_add, Nat.add_zero, Nat.le_refl, reduceCtorEq, Ft21, ← nI_succ]
        exact stl 1 (by rw [if_pos (Decidable.not_not.mp h2)]) h1
      · refine w_beatGoes (k := k) (q := q) isT62 hn1 hn6 hq g2 (ck_cg (fun f hf => g1 (q + f) (by omega)) hk) hw (by omega) (fun I2 b1 b2 => ?_)
        simp only [st_iload_n, st_iload, st_lload_n, st_aload_n, st_aload, st_istore_n, st_istore, st_astore_n, st_astore, st_iconst, st_bipush, st_sipush, st_lconst, st_ldc, st_ldc_w, st_ldc2_w, st_getfield, st_putfieldI, st_putfieldR, st_getstatic, st_iaload, st_iastore, st_baload, st_bastore, st_laload, st_lastore, st_aaload, st_aastore, st_arraylength, st_iadd, st_isub, st_imul, st_iand, st_ior, st_ixor, st_ishl, st_ishr, st_idiv, st_irem, st_ineg, st_land, st_lor, st_lshl, st_i2l, st_l2i, st_i2b, st_i2s, st_i2c, st_lcmp, st_iinc, st_dupI, st_dupR, st_dup2, st_pop, st_goto, st_if_eq, st_icmp_eq, st_if_ne, st_icmp_ne, st_if_lt, st_icmp_lt, st_if_ge, st_icmp_ge, st_if_gt, st_icmp_gt, st_if_le, st_icmp_le, st_tsw, st_lsw, st_newarray, st_anewarray, st_new, st_invokevirtual, st_invokespecial, oin_ref, st_static, st_max, st_min, st_abs, st_copyi, st_copyl, st_ireturn, st_lreturn, st_areturn, st_return, rn_succ, inl_nil, inl_cons, rno_some, oi_some, ol_some, or_some, lk_cons, ins_nil, ins_cons, rm_nil, rm_int, rm_ref, rm_long, pop_0, pop_1, pop_2, pop_3, pop_4, pop_5, pop_6, la_nil, la_int, la_ref, la_long, cat_nil, cat_int, cat_ref, cat_long, call_succ, cont_some, cont_none, rcv_0, rcv_1, rcv_2, rcv_3, rcv_4, rcv_5, rcv_6, rcv_7, rcv_8, rcv_s, rf_some, ret_0, ret_10, ret_11, ret_ite, ite_0, sw_nil, sw_cons, ln_some, isk_some, al_some, ↓reduceIte, Nat.reduceAdd, Nat.reduceEqDiff, Nat.reduceLeDiff, Nat.reduceLT, Int32.reduceLT, Int32.reduceLE, Int32.reduceToNatClampNeg, Int32.reduceOfNat, Int32.reduceAdd, Int32.reduceSub, Int.reduceEq, Int.reduceNeg, Int.reduceLT, Int32.reduceOfInt, Int64.reduceOfInt, Bool.false_eq_true, true_and, and_true, eq_self, not_true_eq_false, not_false_eq_true, false_imp_iff, true_imp_iff, forall_const, or_true, true_or, ne_eq, Nat.zero_add, Nat.add_zero, Nat.le_refl, reduceCtorEq, Ft21, ← nI_succ]
        refine nx I2 ?_ (fun a ha => by rw [b2 a (by omega)]; exact g1 a ha) g2 g3
        have e1 := vq_tr (ve_vq (fun f hf => funext (fun i => b1 f i hf))) (bt_vq g0 hn6 k)
        rw [show afC n k (tw I 37) (I (a + 1)) (I (a + 2)) (j + 1) = afR n k (afC n k (tw I 37) (I (a + 1)) (I (a + 2)) j) (I (a + 1) j) (I (a + 2) j) from rfl]
        unfold afR
        rw [if_pos (Decidable.not_not.mp h1)]
        exact e1
  refine pm_run_wp (n := 20) (stops := [6]) ?_
  simp only [st_iload_n, st_iload, st_lload_n, st_aload_n, st_aload, st_istore_n, st_istore, st_astore_n, st_astore, st_iconst, st_bipush, st_sipush, st_lconst, st_ldc, st_ldc_w, st_ldc2_w, st_getfield, st_putfieldI, st_putfieldR, st_getstatic, st_iaload, st_iastore, st_baload, st_bastore, st_laload, st_lastore, st_aaload, st_aastore, st_arraylength, st_iadd, st_isub, st_imul, st_iand, st_ior, st_ixor, st_ishl, st_ishr, st_idiv, st_irem, st_ineg, st_land, st_lor, st_lshl, st_i2l, st_l2i, st_i2b, st_i2s, st_i2c, st_lcmp, st_iinc, st_dupI, st_dupR, st_dup2, st_pop, st_goto, st_if_eq, st_icmp_eq, st_if_ne, st_icmp_ne, st_if_lt, st_icmp_lt, st_if_ge, st_icmp_ge, st_if_gt, st_icmp_gt, st_if_le, st_icmp_le, st_tsw, st_lsw, st_newarray, st_anewarray, st_new, st_invokevirtual, st_invokespecial, oin_ref, st_static, st_max, st_min, st_abs, st_copyi, st_copyl, st_ireturn, st_lreturn, st_areturn, st_return, rn_succ, inl_nil, inl_cons, rno_some, oi_some, ol_some, or_some, lk_cons, ins_nil, ins_cons, rm_nil, rm_int, rm_ref, rm_long, pop_0, pop_1, pop_2, pop_3, pop_4, pop_5, pop_6, la_nil, la_int, la_ref, la_long, cat_nil, cat_int, cat_ref, cat_long, call_succ, cont_some, cont_none, rcv_0, rcv_1, rcv_2, rcv_3, rcv_4, rcv_5, rcv_6, rcv_7, rcv_8, rcv_s, rf_some, ret_0, ret_10, ret_11, ret_ite, ite_0, sw_nil, sw_cons, ln_some, isk_some, al_some, ↓reduceIte, Nat.reduceAdd, Nat.reduceEqDiff, Nat.reduceLeDiff, Nat.reduceLT, Int32.reduceLT, Int32.reduceLE, Int32.reduceToNatClampNeg, Int32.reduceOfNat, Int32.reduceAdd, Int32.reduceSub, Int.reduceEq, Int.reduceNeg, Int.reduceLT, Int32.reduceOfInt, Int64.reduceOfInt, Bool.false_eq_true, true_and, and_true, eq_self, not_true_eq_false, not_false_eq_true, false_imp_iff, true_imp_iff, forall_const, or_true, true_or, ne_eq, Nat.zero_add, Nat.add_zero, Nat.le_refl, reduceCtorEq, Ft21, shF, rrF K]
  refine w_beg (K := K) (by rw [hKq]; exact z1) (fun I1 K1 b1 b2 b3 b4 => ?_)
  simp only [st_iload_n, st_iload, st_lload_n, st_aload_n, st_aload, st_istore_n, st_istore, st_astore_n, st_astore, st_iconst, st_bipush, st_sipush, st_lconst, st_ldc, st_ldc_w, st_ldc2_w, st_getfield, st_putfieldI, st_putfieldR, st_getstatic, st_iaload, st_iastore, st_baload, st_bastore, st_laload, st_lastore, st_aaload, st_aastore, st_arraylength, st_iadd, st_isub, st_imul, st_iand, st_ior, st_ixor, st_ishl, st_ishr, st_idiv, st_irem, st_ineg, st_land, st_lor, st_lshl, st_i2l, st_l2i, st_i2b, st_i2s, st_i2c, st_lcmp, st_iinc, st_dupI, st_dupR, st_dup2, st_pop, st_goto, st_if_eq, st_icmp_eq, st_if_ne, st_icmp_ne, st_if_lt, st_icmp_lt, st_if_ge, st_icmp_ge, st_if_gt, st_icmp_gt, st_if_le, st_icmp_le, st_tsw, st_lsw, st_newarray, st_anewarray, st_new, st_invokevirtual, st_invokespecial, oin_ref, st_static, st_max, st_min, st_abs, st_copyi, st_copyl, st_ireturn, st_lreturn, st_areturn, st_return, rn_succ, inl_nil, inl_cons, rno_some, oi_some, ol_some, or_some, lk_cons, ins_nil, ins_cons, rm_nil, rm_int, rm_ref, rm_long, pop_0, pop_1, pop_2, pop_3, pop_4, pop_5, pop_6, la_nil, la_int, la_ref, la_long, cat_nil, cat_int, cat_ref, cat_long, call_succ, cont_some, cont_none, rcv_0, rcv_1, rcv_2, rcv_3, rcv_4, rcv_5, rcv_6, rcv_7, rcv_8, rcv_s, rf_some, ret_0, ret_10, ret_11, ret_ite, ite_0, sw_nil, sw_cons, ln_some, isk_some, al_some, ↓reduceIte, Nat.reduceAdd, Nat.reduceEqDiff, Nat.reduceLeDiff, Nat.reduceLT, Int32.reduceLT, Int32.reduceLE, Int32.reduceToNatClampNeg, Int32.reduceOfNat, Int32.reduceAdd, Int32.reduceSub, Int.reduceEq, Int.reduceNeg, Int.reduceLT, Int32.reduceOfInt, Int64.reduceOfInt, Bool.false_eq_true, true_and, and_true, eq_self, not_true_eq_false, not_false_eq_true, false_imp_iff, true_imp_iff, forall_const, or_true, true_or, ne_eq, Nat.zero_add, Nat.add_zero, Nat.le_refl, reduceCtorEq, Ft21, shF, rrF K1]
  exact loop sz 0 I1 K1 (by omega) b1 (fun a ha => b2 a (by omega)) (b3.trans hKq) b4
end PLV
