/-! what is best: the least quick -/
def stV (w : Vw) (f i : Nat) (x : Int32) : Vw := pm_up w f (pm_up (w f) i x)
theorem stv_at {w w' : Vw} {f i g j : Nat} {x : Int32} (e : w g j = w' g j) : stV w f i x g j = stV w' f i x g j := by
  unfold stV
  by_cases hg : g = f
  · subst hg
    rw [pm_up_eq, pm_up_eq]
    by_cases hj : j = i
    · subst hj; rw [pm_up_eq, pm_up_eq]
    · rw [pm_up_ne hj, pm_up_ne hj]; exact e
  · rw [pm_up_ne hg, pm_up_ne hg]; exact e
theorem stv_vq {w w' : Vw} (h : VQ w w') (f i : Nat) (x : Int32) : VQ (stV w f i x) (stV w' f i x) :=
  ⟨fun j hj => stv_at (h.1 j hj), fun g j a b c => stv_at (h.2.1 g j a b c), fun j hj => stv_at (h.2.2 j hj)⟩
theorem tw_up (I : pm_I) (t f i : Nat) (x : Int32) : tw (pm_up I (t + f) (pm_up (I (t + f)) i x)) t = stV (tw I t) f i x := by
  funext g
  unfold tw stV
  by_cases hg : g = f
  · subst hg; rw [pm_up_eq, pm_up_eq]
  · rw [pm_up_ne (by omega), pm_up_ne hg]
theorem stv_ne {w : Vw} {f i g j : Nat} {x : Int32} (h : g ≠ f ∨ j ≠ i) : stV w f i x g j = w g j := by
  unfold stV
  by_cases hg : g = f
  · subst hg
    rw [pm_up_eq, pm_up_ne (by omega)]
  · rw [pm_up_ne hg]
theorem first_lt {p : Nat → Bool} {x : Nat} : ∀ {m : Nat}, firstC p m = some x → x < m
  | m + 1, h => by
    unfold firstC at h
    cases hp : firstC p m with
    | some y =>
      rw [hp] at h
      have := first_lt hp
      obtain rfl : y = x := Option.some.inj h
      omega
    | none =>
      rw [hp] at h
      dsimp only at h
      by_cases hm : p m = true
      · rw [if_pos hm] at h
        have := Option.some.inj h
        omega
      · rw [if_neg hm] at h
        cases h
theorem foN_m5 {o : Option Nat} (ho : ∀ m, o = some m → m < 1000) : foN o (-5) = -5 ↔ o = none := by
  cases o with
  | none => exact ⟨fun _ => rfl, fun _ => rfl⟩
  | some m =>
    refine ⟨fun h => ?_, fun h => by cases h⟩
    have h1 : nI m = -5 := h
    have h2 := nI_toInt (n := m) (by have := ho m rfl; omega)
    rw [h1] at h2
    have : (-5 : Int32).toInt = -5 := by decide
    omega
/-- the number of the first beat, below N, behind which all are settled -/
noncomputable def sbC (n : Nat) (k : ktp) (w : Vw) (N : Nat) : Option Nat := firstC (fun m => setC n (bts n k m w)) N
noncomputable def wbC (n : Nat) (k : ktp) (w : Vw) (N : Nat) : Option Nat := firstC (fun m => awkB n k (bts n k m w)) N
theorem sb_vq {w w' : Vw} (h : VQ w w') {n : Nat} (hn : n ≤ 6) (k : ktp) (N : Nat) : sbC n k w N = sbC n k w' N :=
  first_cg (fun m _ => set_vq (bts_vq h hn k m) hn)
theorem wb_vq {w w' : Vw} (h : VQ w w') {n : Nat} (hn : n ≤ 6) (k : ktp) (N : Nat) : wbC n k w N = wbC n k w' N :=
  first_cg (fun m _ => awkB_vq (bts_vq h hn k m) hn k)
noncomputable def lqB (n : Nat) (k : ktp) (w : Vw) (i : Nat) (j : Nat) : Bool := (sbC n k (stV w 5 i (nI (10 * j + 10))) 31).isSome
noncomputable def lqC (n : Nat) (k : ktp) (w : Vw) (i : Nat) : Int32 := match firstC (lqB n k w i) 20 with
  | some j => nI (10 * j + 10)
  | none => -5
section PLB
variable {X : pm_X} {d : Nat} {I : pm_I} {L : pm_L} {Q : pm_Q} {K : Nat → Nat} {q t : Nat}
theorem w_setl {N n : Nat} {a nb : Int32} {k : ktp} (ha : a = nI N - 1) (hn : I 62 0 = nI n) (hn6 : n ≤ 6) (hq : isK q) (hKq : K 62 = q) (hk : CK I q k) (hw : WK k) (hN : N < 1000)
    (h : ∀ I' : pm_I, (∀ a, (a < 62 ∨ 72 < a) → I' a = I a) → Q (some (.int (foN (sbC n k (tw I 62) N) nb))) SH I' L (RR K)) :
    pm_wp X (d + 6) 10 0 [(0, .ref 61), (1, .int a), (2, .int nb)] [] 0 0 SH I L (RR K) Q := by
  subst ha
  exact w_settlesBy hn hn6 hq hKq hk hw hN h
theorem w_wakl {N n : Nat} {a nb : Int32} {k : ktp} (ha : a = nI N - 1) (hn : I 62 0 = nI n) (hn6 : n ≤ 6) (hq : isK q) (hKq : K 62 = q) (hk : CK I q k) (hw : WK k) (hN : N < 1000)
    (h : ∀ I' : pm_I, (∀ a, (a < 62 ∨ 72 < a) → I' a = I a) → Q (some (.int (foN (wbC n k (tw I 62) N) nb))) SH I' L (RR K)) :
    pm_wp X (d + 6) 11 0 [(0, .ref 61), (1, .int a), (2, .int nb)] [] 0 0 SH I L (RR K) Q := by
  subst ha
  exact w_wakesBy hn hn6 hq hKq hk hw hN h
theorem w_leastQuick {n i : Nat} {k : ktp} (hn : I 37 0 = nI n) (hn6 : n ≤ 6) (hi : i < n) (hq : isK q) (hKq : K 37 = q) (hk : CK I q k) (hw : WK k)
    (h : ∀ (I' : pm_I) (K' : Nat → Nat), (∀ a, (a < 62 ∨ 72 < a) → I' a = I a) → KE K' K → Q (some (.int (lqC n k (tw I 37) i))) SH I' L (RR K')) : pm_wp X (d + 7) 14 0 [(0, .ref 61), (1, .int (nI i))] [] 0 0 SH I L (RR K) Q := by
  obtain ⟨z1, z2, z3⟩ := isK_lt hq
  have hvk : vp_in (nI i) 6 := vi (by omega) (by omega)
  have hck : (nI i).toNatClampNeg = i := nI_clamp (by omega)
  have loop : ∀ r j (I1 : pm_I) (K1 : Nat → Nat), j + r = 20 → (∀ a, (a < 62 ∨ 72 < a) → I1 a = I a) → KE K1 K → firstC (lqB n k (tw I 37) i) j = none →
      pm_wp X (d + 7) 14 3 [(0, .ref 61), (1, .int (nI i)), (2, .int (nI (10 * j + 10)))] [] 0 0 SH I1 L (RR K1) Q := by
    intro r
    induction r with
    | zero =>
      intro j I1 K1 hj g1 g2 g3
      obtain rfl : j = 20 := by omega
      have hlt : (200 : Int32) < nI (10 * 20 + 10) := by decide
      refine pm_gos (n := 20) (stops := [3]) ?_
      simp only [st_iload_n, st_iload, st_lload_n, st_aload_n, st_aload, st_istore_n, st_istore, st_astore_n, st_astore, st_iconst, st_bipush, st_sipush, st_lconst, st_ldc, st_ldc_w, st_ldc2_w, st_getfield, st_putfieldI, st_putfieldR, st_getstatic, st_iaload, st_iastore, st_baload, st_bastore, st_laload, st_lastore, st_aaload, st_aastore, st_arraylength, st_iadd, st_isub, st_imul, st_iand, st_ior, st_ixor, st_ishl, st_ishr, st_idiv, st_irem, st_ineg, st_land, st_lor, st_lshl, st_i2l, st_l2i, st_i2b, st_i2s, st_i2c, st_lcmp, st_iinc, st_dupI, st_dupR, st_dup2, st_pop, st_goto, st_if_eq, st_icmp_eq, st_if_ne, st_icmp_ne, st_if_lt, st_icmp_lt, st_if_ge, st_icmp_ge, st_if_gt, st_icmp_gt, st_if_le, st_icmp_le, st_tsw, st_lsw, st_newarray, st_anewarray, st_new, st_invokevirtual, st_invokespecial, oin_ref, st_static, st_max, st_min, st_abs, st_copyi, st_copyl, st_ireturn, st_lreturn, st_areturn, st_return, rn_succ, inl_nil, inl_cons, rno_some, oi_some, ol_some, or_some, lk_cons, ins_nil, ins_cons, rm_nil, rm_int, rm_ref, rm_long, pop_0, pop_1, pop_2, pop_3, pop_4, pop_5, pop_6, la_nil, la_int, la_ref, la_long, cat_nil, cat_int, cat_ref, cat_long, call_succ, cont_some, cont_none, rcv_0, rcv_1, rcv_2, rcv_3, rcv_4, rcv_5, rcv_6, rcv_7, rcv_8, rcv_s, rf_some, ret_0, ret_10, ret_11, ret_ite, ite_0, sw_nil, sw_cons, ln_some, isk_some, al_some, ↓reduceIte, Nat.reduceAdd, Nat.reduceEqDiff, Nat.reduceLeDiff, Nat.reduceLT, Int32.reduceLT, Int32.reduceLE, Int32.reduceToNatClampNeg, Int32.reduceOfNat, Int32.reduceAdd, Int32.reduceSub, Int.reduceEq, Int.reduceNeg, Int.reduceLT, Int32.reduceOfInt, Int64.reduceOfInt, Bool.false_eq_true, true_and, and_true, eq_self, not_true_eq_false, not_false_eq_true, false_imp_iff, true_imp_iff, forall_const, or_true, true_or, ne_eq, Nat.zero_add, Nat.add_zero, Nat.le_refl, reduceCtorEq, Ft14, hlt]
      have := h I1 K1 g1 g2
      unfold lqC at this
      rw [g3] at this
      exact this
    | succ r ih =>
      intro j I1 K1 hj g1 g2 g3
      have hlt : ¬ (200 : Int32) < nI (10 * j + 10) := by
        rw [show (200 : Int32) = nI 200 from rfl, nI_ltI (by omega) (by omega)]
        omega
      have hK1 : K1 37 = q := (g2 37 (by omega)).trans hKq
      refine pm_gos (n := 20) (stops := [3]) ?_
      simp only [st_iload_n, st_iload, st_lload_n, st_aload_n, st_aload, st_istore_n, st_istore, st_astore_n, st_astore, st_iconst, st_bipush, st_sipush, st_lconst, st_ldc, st_ldc_w, st_ldc2_w, st_getfield, st_putfieldI, st_putfieldR, st_getstatic, st_iaload, st_iastore, st_baload, st_bastore, st_laload, st_lastore, st_aaload, st_aastore, st_arraylength, st_iadd, st_isub, st_imul, st_iand, st_ior, st_ixor, st_ishl, st_ishr, st_idiv, st_irem, st_ineg, st_land, st_lor, st_lshl, st_i2l, st_l2i, st_i2b, st_i2s, st_i2c, st_lcmp, st_iinc, st_dupI, st_dupR, st_dup2, st_pop, st_goto, st_if_eq, st_icmp_eq, st_if_ne, st_icmp_ne, st_if_lt, st_icmp_lt, st_if_ge, st_icmp_ge, st_if_gt, st_icmp_gt, st_if_le, st_icmp_le, st_tsw, st_lsw, st_newarray, st_anewarray, st_new, st_invokevirtual, st_invokespecial, oin_ref, st_static, st_max, st_min, st_abs, st_copyi, st_copyl, st_ireturn, st_lreturn, st_areturn, st_return, rn_succ, inl_nil, inl_cons, rno_some, oi_some, ol_some, or_some, lk_cons, ins_nil, ins_cons, rm_nil, rm_int, rm_ref, rm_long, pop_0, pop_1, pop_2, pop_3, pop_4, pop_5, pop_6, la_nil, la_int, la_ref, la_long, cat_nil, cat_int, cat_ref, cat_long, call_succ, cont_some, cont_none, rcv_0, rcv_1, rcv_2, rcv_3, rcv_4, rcv_5, rcv_6, rcv_7, rcv_8, rcv_s, rf_some, ret_0, ret_10, ret_11, ret_ite, ite_0, sw_nil, sw_cons, ln_some, isk_some, al_some, ↓reduceIte, Nat.reduceAdd, Nat.reduceEqDiff, Nat.reduceLeDiff, Nat.reduceLT, Int32.reduceLT, Int32.reduceLE, Int32.reduceToNatClampNeg, Int32.reduceOfNat, Int32.reduceAdd, Int32.reduceSub, Int.reduceEq, Int.reduceNeg, Int.reduceLT, Int32.reduceOfInt, Int64.reduceOfInt, Bool.false_eq_true, true_and, and_true, eq_self, not_true_eq_false, not_false_eq_true, false_imp_iff, true_imp_iff, forall_const, or_true, true_or, ne_eq, Nat.zero_add, Nat.add_zero, Nat.le_refl, reduceCtorEq, Ft14, hlt, shF, rrF K1]
      refine w_beg (K := K1) (by rw [hK1]; exact z1) (fun I2 K2 b1 b2 b3 b4 => ?_)
      have hn2 : I2 62 0 = nI n := (b1.1 0 (by omega)).trans (by rw [show tw I1 37 0 0 = I1 37 0 from rfl, g1 37 (by omega)]; exact hn)
      simp only [st_iload_n, st_iload, st_lload_n, st_aload_n, st_aload, st_istore_n, st_istore, st_astore_n, st_astore, st_iconst, st_bipush, st_sipush, st_lconst, st_ldc, st_ldc_w, st_ldc2_w, st_getfield, st_putfieldI, st_putfieldR, st_getstatic, st_iaload, st_iastore, st_baload, st_bastore, st_laload, st_lastore, st_aaload, st_aastore, st_arraylength, st_iadd, st_isub, st_imul, st_iand, st_ior, st_ixor, st_ishl, st_ishr, st_idiv, st_irem, st_ineg, st_land, st_lor, st_lshl, st_i2l, st_l2i, st_i2b, st_i2s, st_i2c, st_lcmp, st_iinc, st_dupI, st_dupR, st_dup2, st_pop, st_goto, st_if_eq, st_icmp_eq, st_if_ne, st_icmp_ne, st_if_lt, st_icmp_lt, st_if_ge, st_icmp_ge, st_if_gt, st_icmp_gt, st_if_le, st_icmp_le, st_tsw, st_lsw, st_newarray, st_anewarray, st_new, st_invokevirtual, st_invokespecial, oin_ref, st_static, st_max, st_min, st_abs, st_copyi, st_copyl, st_ireturn, st_lreturn, st_areturn, st_return, rn_succ, inl_nil, inl_cons, rno_some, oi_some, ol_some, or_some, lk_cons, ins_nil, ins_cons, rm_nil, rm_int, rm_ref, rm_long, pop_0, pop_1, pop_2, pop_3, pop_4, pop_5, pop_6, la_nil, la_int, la_ref, la_long, cat_nil, cat_int, cat_ref, cat_long, call_succ, cont_some, cont_none, rcv_0, rcv_1, rcv_2, rcv_3, rcv_4, rcv_5, rcv_6, rcv_7, rcv_8, rcv_s, rf_some, ret_0, ret_10, ret_11, ret_ite, ite_0, sw_nil, sw_cons, ln_some, isk_some, al_some, ↓reduceIte, Nat.reduceAdd, Nat.reduceEqDiff, Nat.reduceLeDiff, Nat.reduceLT, Int32.reduceLT, Int32.reduceLE, Int32.reduceToNatClampNeg, Int32.reduceOfNat, Int32.reduceAdd, Int32.reduceSub, Int.reduceEq, Int.reduceNeg, Int.reduceLT, Int32.reduceOfInt, Int64.reduceOfInt, Bool.false_eq_true, true_and, and_true, eq_self, not_true_eq_false, not_false_eq_true, false_imp_iff, true_imp_iff, forall_const, or_true, true_or, ne_eq, Nat.zero_add, Nat.add_zero, Nat.le_refl, reduceCtorEq, Ft14, shF, rrF K2, hvk, hck]
      have e37 : VQ (tw I1 37) (tw I 37) := ve_vq (fun f hf => g1 (37 + f) (by omega))
      have e2 : VQ (stV (tw I2 62) 5 i (nI (10 * j + 10))) (stV (tw I 37) 5 i (nI (10 * j + 10))) := stv_vq (vq_tr b1 e37) _ _ _
      have hn3 : pm_up I2 67 (pm_up (I2 67) i (nI (10 * j + 10))) 62 0 = nI n := by rw [pm_up_ne (show (62 : Nat) ≠ 67 by omega)]; exact hn2
      refine w_setl (N := 31) (n := n) (k := k) (by decide) hn3 hn6 hq (b3.trans hK1) (ck_cg (fun f hf => ?_) hk) hw (by omega) (fun I3 c1 => ?_)
      · rw [pm_up_ne (by omega), b2 (q + f) (by omega)]
        exact g1 (q + f) (by omega)
      · have et : tw (pm_up I2 67 (pm_up (I2 67) i (nI (10 * j + 10)))) 62 = stV (tw I2 62) 5 i (nI (10 * j + 10)) := tw_up I2 62 5 i _
        rw [et, sb_vq e2 hn6 k 31]
        have hfr : ∀ a, (a < 62 ∨ 72 < a) → I3 a = I a := fun a ha => by
          rw [c1 a ha, pm_up_ne (by omega), b2 a (by omega)]
          exact g1 a ha
        have hm5 := foN_m5 (o := sbC n k (stV (tw I 37) 5 i (nI (10 * j + 10))) 31) (fun m hm => by have := first_lt hm; omega)
        have hinc : nI (10 * j + 10) + 10 = nI (10 * (j + 1) + 10) := by
          rw [show (10 : Int32) = nI 10 from rfl, nI_add]
          rfl
        simp only [st_iload_n, st_iload, st_lload_n, st_aload_n, st_aload, st_istore_n, st_istore, st_astore_n, st_astore, st_iconst, st_bipush, st_sipush, st_lconst, st_ldc, st_ldc_w, st_ldc2_w, st_getfield, st_putfieldI, st_putfieldR, st_getstatic, st_iaload, st_iastore, st_baload, st_bastore, st_laload, st_lastore, st_aaload, st_aastore, st_arraylength, st_iadd, st_isub, st_imul, st_iand, st_ior, st_ixor, st_ishl, st_ishr, st_idiv, st_irem, st_ineg, st_land, st_lor, st_lshl, st_i2l, st_l2i, st_i2b, st_i2s, st_i2c, st_lcmp, st_iinc, st_dupI, st_dupR, st_dup2, st_pop, st_goto, st_if_eq, st_icmp_eq, st_if_ne, st_icmp_ne, st_if_lt, st_icmp_lt, st_if_ge, st_icmp_ge, st_if_gt, st_icmp_gt, st_if_le, st_icmp_le, st_tsw, st_lsw, st_newarray, st_anewarray, st_new, st_invokevirtual, st_invokespecial, oin_ref, st_static, st_max, st_min, st_abs, st_copyi, st_copyl, st_ireturn, st_lreturn, st_areturn, st_return, rn_succ, inl_nil, inl_cons, rno_some, oi_some, ol_some, or_some, lk_cons, ins_nil, ins_cons, rm_nil, rm_int, rm_ref, rm_long, pop_0, pop_1, pop_2, pop_3, pop_4, pop_5, pop_6, la_nil, la_int, la_ref, la_long, cat_nil, cat_int, cat_ref, cat_long, call_succ, cont_some, cont_none, rcv_0, rcv_1, rcv_2, rcv_3, rcv_4, rcv_5, rcv_6, rcv_7, rcv_8, rcv_s, rf_some, ret_0, ret_10, ret_11, ret_ite, ite_0, sw_nil, sw_cons, ln_some, isk_some, al_some, ↓reduceIte, Nat.reduceAdd, Nat.reduceEqDiff, Nat.reduceLeDiff, Nat.reduceLT, Int32.reduceLT, Int32.reduceLE, Int32.reduceToNatClampNeg, Int32.reduceOfNat, Int32.reduceAdd, Int32.reduceSub, Int.reduceEq, Int.reduceNeg, Int.reduceLT, Int32.reduceOfInt, Int64.reduceOfInt, Bool.false_eq_true, true_and, and_true, eq_self, not_true_eq_false, not_false_eq_true, false_imp_iff, true_imp_iff, forall_const, or_true, true_or, ne_eq, Nat.zero_add, Nat.add_zero, Nat.le_refl, reduceCtorEq, Ft14, hinc]
        refine ⟨fun h1 => ?_, fun h1 => ?_⟩
        · refine ih (j + 1) I3 K2 (by omega) hfr (ke_tr b4 g2) ?_
          unfold firstC
          rw [g3]
          unfold lqB
          rw [hm5.mp h1]
          rfl
        · have hs : lqB n k (tw I 37) i j = true := by
            unfold lqB
            cases ho : sbC n k (stV (tw I 37) 5 i (nI (10 * j + 10))) 31 with
            | none => exact absurd (hm5.mpr ho) h1
            | some _ => rfl
          have hf : firstC (lqB n k (tw I 37) i) (j + 1) = some j := by
            unfold firstC
            rw [g3, hs]
            rfl
          have := h I3 K2 hfr (ke_tr b4 g2)
          unfold lqC at this
          rw [show 20 = j + 1 + r by omega, first_st hf] at this
          exact this
  refine pm_run_wp (n := 20) (stops := [3]) ?_
  simp only [st_iload_n, st_iload, st_lload_n, st_aload_n, st_aload, st_istore_n, st_istore, st_astore_n, st_astore, st_iconst, st_bipush, st_sipush, st_lconst, st_ldc, st_ldc_w, st_ldc2_w, st_getfield, st_putfieldI, st_putfieldR, st_getstatic, st_iaload, st_iastore, st_baload, st_bastore, st_laload, st_lastore, st_aaload, st_aastore, st_arraylength, st_iadd, st_isub, st_imul, st_iand, st_ior, st_ixor, st_ishl, st_ishr, st_idiv, st_irem, st_ineg, st_land, st_lor, st_lshl, st_i2l, st_l2i, st_i2b, st_i2s, st_i2c, st_lcmp, st_iinc, st_dupI, st_dupR, st_dup2, st_pop, st_goto, st_if_eq, st_icmp_eq, st_if_ne, st_icmp_ne, st_if_lt, st_icmp_lt, st_if_ge, st_icmp_ge, st_if_gt, st_icmp_gt, st_if_le, st_icmp_le, st_tsw, st_lsw, st_newarray, st_anewarray, st_new, st_invokevirtual, st_invokespecial, oin_ref, st_static, st_max, st_min, st_abs, st_copyi, st_copyl, st_ireturn, st_lreturn, st_areturn, st_return, rn_succ, inl_nil, inl_cons, rno_some, oi_some, ol_some, or_some, lk_cons, ins_nil, ins_cons, rm_nil, rm_int, rm_ref, rm_long, pop_0, pop_1, pop_2, pop_3, pop_4, pop_5, pop_6, la_nil, la_int, la_ref, la_long, cat_nil, cat_int, cat_ref, cat_long, call_succ, cont_some, cont_none, rcv_0, rcv_1, rcv_2, rcv_3, rcv_4, rcv_5, rcv_6, rcv_7, rcv_8, rcv_s, rf_some, ret_0, ret_10, ret_11, ret_ite, ite_0, sw_nil, sw_cons, ln_some, isk_some, al_some, ↓reduceIte, Nat.reduceAdd, Nat.reduceEqDiff, Nat.reduceLeDiff, Nat.reduceLT, Int32.reduceLT, Int32.reduceLE, Int32.reduceToNatClampNeg, Int32.reduceOfNat, Int32.reduceAdd, Int32.reduceSub, Int.reduceEq, Int.reduceNeg, Int.reduceLT, Int32.reduceOfInt, Int64.reduceOfInt, Bool.false_eq_true, true_and, and_true, eq_self, not_true_eq_false, not_false_eq_true, false_imp_iff, true_imp_iff, forall_const, or_true, true_or, ne_eq, Nat.zero_add, Nat.add_zero, Nat.le_refl, reduceCtorEq, Ft14]
  exact loop 20 0 I K (by omega) (fun _ _ => rfl) (fun _ _ => rfl) rfl
end PLB
