/-! what is asked of what comes: the second table, how soon it settles, how soon she wakes -/
theorem sum_cg {f g : Nat → Int32} : ∀ {n : Nat}, (∀ j, j < n → f j = g j) → sumI n f = sumI n g
  | 0, _ => rfl
  | n + 1, h => by
    unfold sumI
    rw [sum_cg (fun j hj => h j (by omega)), h n (by omega)]
theorem vq_sy {w w' : Vw} (h : VQ w w') : VQ w' w := ⟨fun j hj => (h.1 j hj).symm, fun f j a b c => (h.2.1 f j a b c).symm, fun j hj => (h.2.2 j hj).symm⟩
theorem vq_tr {a b c : Vw} (h : VQ a b) (g : VQ b c) : VQ a c := ⟨fun j hj => (h.1 j hj).trans (g.1 j hj), fun f j x y z => (h.2.1 f j x y z).trans (g.2.1 f j x y z), fun j hj => (h.2.2 j hj).trans (g.2.2 j hj)⟩
theorem ve_vq {w w' : Vw} (h : VE w w') : VQ w w' := ⟨fun j _ => by rw [h 0 (by omega)], fun f j _ hf _ => by rw [h f (by omega)], fun j _ => by rw [h 6 (by omega)]⟩
theorem snd_vq {w w' : Vw} (h : VQ w w') {i : Nat} (hi : i < 6) : sndC w i = sndC w' i := by
  simp only [sndC, h.1 7 (by omega), h.1 8 (by omega), h.1 0 (by omega), h.2.1 1 i (by omega) (by omega) hi, h.2.1 4 i (by omega) (by omega) hi]
theorem her_vq {w w' : Vw} (h : VQ w w') {i j : Nat} (hi : i < 6) (hj : j < 6) : herC w i j = herC w' i j := by
  simp only [herC, wayC, snd_vq h hj, h.2.1 3 i (by omega) (by omega) hi, h.2.1 3 j (by omega) (by omega) hj]
theorem flw_vq {w w' : Vw} (h : VQ w w') {i : Nat} (hi : i < 6) : ∀ {n : Nat}, n ≤ 6 → flwC w i n = flwC w' i n
  | 0, _ => rfl
  | n + 1, hn => by
    unfold flwC
    rw [flw_vq h hi (by omega), her_vq h hi (by omega)]
theorem din_vq {w w' : Vw} (h : VQ w w') {i n : Nat} (hi : i < 6) (hn : n ≤ 6) : dinC n w i = dinC n w' i := sum_cg (fun j hj => her_vq h hi (by omega))
theorem noi_vq {w w' : Vw} (h : VQ w w') {n : Nat} (hn : n ≤ 6) : noiC n w = noiC n w' := sum_cg (fun j hj => snd_vq h (by omega))
theorem golO_vq {w w' : Vw} (h : VQ w w') {i : Nat} (hi : i < 6) {o : Option Nat} (ho : ∀ j, o = some j → j < 6) : golO w i o = golO w' i o := by
  have h5 := h.2.1 5 i (by omega) (by omega) hi
  have ht : thC w i o = thC w' i o := by
    cases o with
    | none => exact h5
    | some j => exact h.2.1 5 j (by omega) (by omega) (ho j rfl)
  have hr : r3 (w' 0 8) < 4 := (r3_lt _).1
  simp only [golO, ownC, ht, h5, h.1 8 (by omega), h.2.1 1 i (by omega) (by omega) hi, h.2.1 2 i (by omega) (by omega) hi, h.2.2 (4 * i + r3 (w' 0 8)) (by omega)]
theorem gol_vq {w w' : Vw} (h : VQ w w') {i n : Nat} (hi : i < 6) (hn : n ≤ 6) : golC n w i = golC n w' i := by
  unfold golC
  rw [flw_vq h hi hn, golO_vq h hi (fun j hj => by have := flwC_lt hj; omega)]
theorem mo_vq {w w' : Vw} (h : VQ w w') {i : Nat} (hi : i < 6) (cl : List kcl) : moC cl w i = moC cl w' i :=
  mo_cg (h.1 8 (by omega)) (h.2.1 1 i (by omega) (by omega) hi) (h.2.1 2 i (by omega) (by omega) hi) (h.2.1 4 i (by omega) (by omega) hi) (h.2.1 5 i (by omega) (by omega) hi) cl
theorem bt_vq {w w' : Vw} (h : VQ w w') {n : Nat} (hn : n ≤ 6) (k : ktp) : VQ (btC n k.1 k.2.1 k.2.2.1 (moC k.2.2.2 w) w) (btC n k.1 k.2.1 k.2.2.1 (moC k.2.2.2 w') w') := by
  refine ⟨fun j hj => ?_, fun f j hf1 hf5 hj => ?_, fun j hj => h.2.2 j hj⟩
  · simp only [btC, noi_vq h hn, h.1 8 (by omega), h.1 9 (by omega), h.1 j hj]
  · match f, hf1, hf5 with
    | 1, _, _ => exact h.2.1 1 j (by omega) (by omega) hj
    | 2, _, _ => exact h.2.1 2 j (by omega) (by omega) hj
    | 3, _, _ => exact h.2.1 3 j (by omega) (by omega) hj
    | 4, _, _ => simp only [btC, h.1 7 (by omega), h.2.1 4 j (by omega) (by omega) hj, mo_vq h hj, snd_vq h hj, din_vq h hj hn]
    | 5, _, _ => simp only [btC, h.2.1 5 j (by omega) (by omega) hj, gol_vq h hj hn]
theorem bts_vq {w w' : Vw} (h : VQ w w') {n : Nat} (hn : n ≤ 6) (k : ktp) : ∀ m, VQ (bts n k m w) (bts n k m w')
  | 0 => h
  | m + 1 => bt_vq (bts_vq h hn k m) hn k
theorem stl_vq {w w' : Vw} (h : VQ w w') : ∀ {m : Nat}, m ≤ 6 → stlC w m = stlC w' m
  | 0, _ => rfl
  | m + 1, hm => by
    unfold stlC
    rw [stl_vq h (by omega), h.1 7 (by omega), h.2.1 5 m (by omega) (by omega) (by omega)]
theorem set_vq {w w' : Vw} (h : VQ w w') {n : Nat} (hn : n ≤ 6) : setC n w = setC n w' := by
  unfold setC
  rw [stl_vq h hn]
/-- the first number below one of which it holds -/
def firstC (p : Nat → Bool) : Nat → Option Nat
  | 0 => none
  | m + 1 => match firstC p m with
    | some x => some x
    | none => if p m = true then some m else none
def foN (o : Option Nat) (nb : Int32) : Int32 := match o with
  | some m => nI m
  | none => nb
theorem first_cg {p p' : Nat → Bool} : ∀ {m : Nat}, (∀ j, j < m → p j = p' j) → firstC p m = firstC p' m
  | 0, _ => rfl
  | m + 1, h => by
    unfold firstC
    rw [first_cg (fun j hj => h j (by omega)), h m (by omega)]
theorem first_st {p : Nat → Bool} {x : Nat} : ∀ {m r : Nat}, firstC p m = some x → firstC p (m + r) = some x
  | _, 0, h => h
  | m, r + 1, h => by
    rw [← Nat.add_assoc]
    unfold firstC
    rw [first_st h]
theorem nI_m1 {N m : Nat} (hN : N < 1000) (hm : m < 1000) : (nI N - 1 < nI m) ↔ N ≤ m := by
  cases N with
  | zero =>
    have : nI 0 - 1 < nI m := by
      rw [Int32.lt_iff_toInt_lt, nI_toInt (by omega), show (nI 0 - 1).toInt = -1 from by decide]
      omega
    exact ⟨fun _ => by omega, fun _ => this⟩
  | succ N =>
    rw [nI_pred, nI_ltI (by omega) (by omega)]
    omega
section PLF
variable {X : pm_X} {d : Nat} {I : pm_I} {L : pm_L} {Q : pm_Q} {K : Nat → Nat} {q : Nat}
theorem isT37 : isT 37 := Or.inl rfl
theorem isT49 : isT 49 := Or.inr (Or.inl rfl)
theorem isT62 : isT 62 := Or.inr (Or.inr rfl)
theorem isK_lt (h : isK q) : q < 170 ∧ (q + 5 < 62 ∨ 73 < q) ∧ (q + 5 < 37 ∨ 48 < q) := by
  rcases h with rfl | rfl | rfl | rfl | rfl | rfl | rfl <;> omega
theorem w_begin (hK : K 37 < 170) (h : ∀ I' : pm_I, VQ (tw I' 62) (tw I 37) → (∀ a, (a < 62 ∨ 68 < a) → I' a = I a) → Q none SH I' L (RR (pm_up K 62 (K 37)))) : pm_wp X (d + 2) 8 0 [(0, .ref 61)] [] 0 0 SH I L (RR K) Q := by
  refine pm_run_wp (n := 20) (stops := []) ?_
  simp only [st_iload_n, st_iload, st_lload_n, st_aload_n, st_aload, st_istore_n, st_istore, st_astore_n, st_astore, st_iconst, st_bipush, st_sipush, st_lconst, st_ldc, st_ldc_w, st_ldc2_w, st_getfield, st_putfieldI, st_putfieldR, st_getstatic, st_iaload, st_iastore, st_baload, st_bastore, st_laload, st_lastore, st_aaload, st_aastore, st_arraylength, st_iadd, st_isub, st_imul, st_iand, st_ior, st_ixor, st_ishl, st_ishr, st_idiv, st_irem, st_ineg, st_land, st_lor, st_lshl, st_i2l, st_l2i, st_i2b, st_i2s, st_i2c, st_lcmp, st_iinc, st_dupI, st_dupR, st_dup2, st_pop, st_goto, st_if_eq, st_icmp_eq, st_if_ne, st_icmp_ne, st_if_lt, st_icmp_lt, st_if_ge, st_icmp_ge, st_if_gt, st_icmp_gt, st_if_le, st_icmp_le, st_tsw, st_lsw, st_newarray, st_anewarray, st_new, st_invokevirtual, st_invokespecial, oin_ref, st_static, st_max, st_min, st_abs, st_copyi, st_copyl, st_ireturn, st_lreturn, st_areturn, st_return, rn_succ, inl_nil, inl_cons, rno_some, oi_some, ol_some, or_some, lk_cons, ins_nil, ins_cons, rm_nil, rm_int, rm_ref, rm_long, pop_0, pop_1, pop_2, pop_3, pop_4, pop_5, pop_6, la_nil, la_int, la_ref, la_long, cat_nil, cat_int, cat_ref, cat_long, call_succ, cont_some, cont_none, rcv_0, rcv_1, rcv_2, rcv_3, rcv_4, rcv_5, rcv_6, rcv_7, rcv_8, rcv_s, rf_some, ret_0, ret_10, ret_11, ret_ite, ite_0, sw_nil, sw_cons, ln_some, isk_some, al_some, ↓reduceIte, Nat.reduceAdd, Nat.reduceEqDiff, Nat.reduceLeDiff, Nat.reduceLT, Int32.reduceLT, Int32.reduceLE, Int32.reduceToNatClampNeg, Int32.reduceOfNat, Int32.reduceAdd, Int32.reduceSub, Int.reduceEq, Int.reduceNeg, Int.reduceLT, Int32.reduceOfInt, Int64.reduceOfInt, Bool.false_eq_true, true_and, and_true, eq_self, not_true_eq_false, not_false_eq_true, false_imp_iff, true_imp_iff, forall_const, or_true, true_or, ne_eq, Nat.zero_add, Nat.add_zero, Nat.le_refl, reduceCtorEq, Ft8, shF, rrF K]
  refine w_copyFrom isT62 isT37 (by omega) hK (fun I' h1 h2 => ?_)
  simp only [st_iload_n, st_iload, st_lload_n, st_aload_n, st_aload, st_istore_n, st_istore, st_astore_n, st_astore, st_iconst, st_bipush, st_sipush, st_lconst, st_ldc, st_ldc_w, st_ldc2_w, st_getfield, st_putfieldI, st_putfieldR, st_getstatic, st_iaload, st_iastore, st_baload, st_bastore, st_laload, st_lastore, st_aaload, st_aastore, st_arraylength, st_iadd, st_isub, st_imul, st_iand, st_ior, st_ixor, st_ishl, st_ishr, st_idiv, st_irem, st_ineg, st_land, st_lor, st_lshl, st_i2l, st_l2i, st_i2b, st_i2s, st_i2c, st_lcmp, st_iinc, st_dupI, st_dupR, st_dup2, st_pop, st_goto, st_if_eq, st_icmp_eq, st_if_ne, st_icmp_ne, st_if_lt, st_icmp_lt, st_if_ge, st_icmp_ge, st_if_gt, st_icmp_gt, st_if_le, st_icmp_le, st_tsw, st_lsw, st_newarray, st_anewarray, st_new, st_invokevirtual, st_invokespecial, oin_ref, st_static, st_max, st_min, st_abs, st_copyi, st_copyl, st_ireturn, st_lreturn, st_areturn, st_return, rn_succ, inl_nil, inl_cons, rno_some, oi_some, ol_some, or_some, lk_cons, ins_nil, ins_cons, rm_nil, rm_int, rm_ref, rm_long, pop_0, pop_1, pop_2, pop_3, pop_4, pop_5, pop_6, la_nil, la_int, la_ref, la_long, cat_nil, cat_int, cat_ref, cat_long, call_succ, cont_some, cont_none, rcv_0, rcv_1, rcv_2, rcv_3, rcv_4, rcv_5, rcv_6, rcv_7, rcv_8, rcv_s, rf_some, ret_0, ret_10, ret_11, ret_ite, ite_0, sw_nil, sw_cons, ln_some, isk_some, al_some, ↓reduceIte, Nat.reduceAdd, Nat.reduceEqDiff, Nat.reduceLeDiff, Nat.reduceLT, Int32.reduceLT, Int32.reduceLE, Int32.reduceToNatClampNeg, Int32.reduceOfNat, Int32.reduceAdd, Int32.reduceSub, Int.reduceEq, Int.reduceNeg, Int.reduceLT, Int32.reduceOfInt, Int64.reduceOfInt, Bool.false_eq_true, true_and, and_true, eq_self, not_true_eq_false, not_false_eq_true, false_imp_iff, true_imp_iff, forall_const, or_true, true_or, ne_eq, Nat.zero_add, Nat.add_zero, Nat.le_refl, reduceCtorEq, Ft8]
  exact h I' h1 h2
theorem w_settlesBy {N n : Nat} {nb : Int32} {k : ktp} (hn : I 62 0 = nI n) (hn6 : n ≤ 6) (hq : isK q) (hKq : K 62 = q) (hk : CK I q k) (hw : WK k) (hN : N < 1000)
    (h : ∀ I' : pm_I, (∀ a, (a < 62 ∨ 72 < a) → I' a = I a) → Q (some (.int (foN (firstC (fun m => setC n (bts n k m (tw I 62))) N) nb))) SH I' L (RR K)) :
    pm_wp X (d + 6) 10 0 [(0, .ref 61), (1, .int (nI N - 1)), (2, .int nb)] [] 0 0 SH I L (RR K) Q := by
  have loop : ∀ r m (I1 : pm_I), m + r = N → VE (tw I1 62) (bts n k (m - 1) (tw I 62)) → (∀ a, (a < 62 ∨ 72 < a) → I1 a = I a) → firstC (fun m => setC n (bts n k m (tw I 62))) m = none →
      pm_wp X (d + 6) 10 2 [(0, .ref 61), (1, .int (nI N - 1)), (2, .int nb), (3, .int (nI m))] [] 0 0 SH I1 L (RR K) Q := by
    intro r
    induction r with
    | zero =>
      intro m I1 hm g1 g2 g3
      obtain rfl : m = N := by omega
      have hlt : nI m - 1 < nI m := (nI_m1 hN hN).mpr (by omega)
      refine pm_gos (n := 20) (stops := [2]) ?_
      simp only [st_iload_n, st_iload, st_lload_n, st_aload_n, st_aload, st_istore_n, st_istore, st_astore_n, st_astore, st_iconst, st_bipush, st_sipush, st_lconst, st_ldc, st_ldc_w, st_ldc2_w, st_getfield, st_putfieldI, st_putfieldR, st_getstatic, st_iaload, st_iastore, st_baload, st_bastore, st_laload, st_lastore, st_aaload, st_aastore, st_arraylength, st_iadd, st_isub, st_imul, st_iand, st_ior, st_ixor, st_ishl, st_ishr, st_idiv, st_irem, st_ineg, st_land, st_lor, st_lshl, st_i2l, st_l2i, st_i2b, st_i2s, st_i2c, st_lcmp, st_iinc, st_dupI, st_dupR, st_dup2, st_pop, st_goto, st_if_eq, st_icmp_eq, st_if_ne, st_icmp_ne, st_if_lt, st_icmp_lt, st_if_ge, st_icmp_ge, st_if_gt, st_icmp_gt, st_if_le, st_icmp_le, st_tsw, st_lsw, st_newarray, st_anewarray, st_new, st_invokevirtual, st_invokespecial, oin_ref, st_static, st_max, st_min, st_abs, st_copyi, st_copyl, st_ireturn, st_lreturn, st_areturn, st_return, rn_succ, inl_nil, inl_cons, rno_some, oi_some, ol_some, or_some, lk_cons, ins_nil, ins_cons, rm_nil, rm_int, rm_ref, rm_long, pop_0, pop_1, pop_2, pop_3, pop_4, pop_5, pop_6, la_nil, la_int, la_ref, la_long, cat_nil, cat_int, cat_ref, cat_long, call_succ, cont_some, cont_none, rcv_0, rcv_1, rcv_2, rcv_3, rcv_4, rcv_5, rcv_6, rcv_7, rcv_8, rcv_s, rf_some, ret_0, ret_10, ret_11, ret_ite, ite_0, sw_nil, sw_cons, ln_some, isk_some, al_some, ↓reduceIte, Nat.reduceAdd, Nat.reduceEqDiff, Nat.reduceLeDiff, Nat.reduceLT, Int32.reduceLT, Int32.reduceLE, Int32.reduceToNatClampNeg, Int32.reduceOfNat, Int32.reduceAdd, Int32.reduceSub, Int.reduceEq, Int.reduceNeg, Int.reduceLT, Int32.reduceOfInt, Int64.reduceOfInt, Bool.false_eq_true, true_and, and_true, eq_self, not_true_eq_false, not_false_eq_true, false_imp_iff, true_imp_iff, forall_const, or_true, true_or, ne_eq, Nat.zero_add, Nat.add_zero, Nat.le_refl, reduceCtorEq, Ft10, hlt]
      have := h I1 g2
      rw [g3] at this
      exact this
    | succ r ih =>
      intro m I1 hm g1 g2 g3
      have hlt : ¬ nI N - 1 < nI m := fun z => by have := (nI_m1 hN (by omega)).mp z; omega
      have at18 : ∀ I2 : pm_I, VE (tw I2 62) (bts n k m (tw I 62)) → (∀ a, (a < 62 ∨ 72 < a) → I2 a = I a) → pm_wp X (d + 6) 10 18 [(0, .ref 61), (1, .int (nI N - 1)), (2, .int nb), (3, .int (nI m))] [] 0 0 SH I2 L (RR K) Q := by
        intro I2 b1 b2
        have hn2 : I2 62 0 = nI n := by
          have := congrFun (b1 0 (by omega)) 0
          rw [bts_np] at this
          exact this.trans hn
        refine pm_run_wp (n := 20) (stops := [2]) ?_
        simp only [st_iload_n, st_iload, st_lload_n, st_aload_n, st_aload, st_istore_n, st_istore, st_astore_n, st_astore, st_iconst, st_bipush, st_sipush, st_lconst, st_ldc, st_ldc_w, st_ldc2_w, st_getfield, st_putfieldI, st_putfieldR, st_getstatic, st_iaload, st_iastore, st_baload, st_bastore, st_laload, st_lastore, st_aaload, st_aastore, st_arraylength, st_iadd, st_isub, st_imul, st_iand, st_ior, st_ixor, st_ishl, st_ishr, st_idiv, st_irem, st_ineg, st_land, st_lor, st_lshl, st_i2l, st_l2i, st_i2b, st_i2s, st_i2c, st_lcmp, st_iinc, st_dupI, st_dupR, st_dup2, st_pop, st_goto, st_if_eq, st_icmp_eq, st_if_ne, st_icmp_ne, st_if_lt, st_icmp_lt, st_if_ge, st_icmp_ge, st_if_gt, st_icmp_gt, st_if_le, st_icmp_le, st_tsw, st_lsw, st_newarray, st_anewarray, st_new, st_invokevirtual, st_invokespecial, oin_ref, st_static, st_max, st_min, st_abs, st_copyi, st_copyl, st_ireturn, st_lreturn, st_areturn, st_return, rn_succ, inl_nil, inl_cons, rno_some, oi_some, ol_some, or_some, lk_cons, ins_nil, ins_cons, rm_nil, rm_int, rm_ref, rm_long, pop_0, pop_1, pop_2, pop_3, pop_4, pop_5, pop_6, la_nil, la_int, la_ref, la_long, cat_nil, cat_int, cat_ref, cat_long, call_succ, cont_some, cont_none, rcv_0, rcv_1, rcv_2, rcv_3, rcv_4, rcv_5, rcv_6, rcv_7, rcv_8, rcv_s, rf_some, ret_0, ret_10, ret_11, ret_ite, ite_0, sw_nil, sw_cons, ln_some, isk_some, al_some, ↓reduceIte, Nat.reduceAdd, Nat.reduceEqDiff, Nat.reduceLeDiff, Nat.reduceLT, Int32.reduceLT, Int32.reduceLE, Int32.reduceToNatClampNeg, Int32.reduceOfNat, Int32.reduceAdd, Int32.reduceSub, Int.reduceEq, Int.reduceNeg, Int.reduceLT, Int32.reduceOfInt, Int64.reduceOfInt, Bool.false_eq_true, true_and, and_true, eq_self, not_true_eq_false, not_false_eq_true, false_imp_iff, true_imp_iff, forall_const, or_true, true_or, ne_eq, Nat.zero_add, Nat.add_zero, Nat.le_refl, reduceCtorEq, Ft10, shF, rrF K]
        refine w_isSettled (n := n) isT62 hn2 hn6 ?_
        have hset : setC n (tw I2 62) = setC n (bts n k m (tw I 62)) := by unfold setC; rw [stl_ve b1]
        simp only [st_iload_n, st_iload, st_lload_n, st_aload_n, st_aload, st_istore_n, st_istore, st_astore_n, st_astore, st_iconst, st_bipush, st_sipush, st_lconst, st_ldc, st_ldc_w, st_ldc2_w, st_getfield, st_putfieldI, st_putfieldR, st_getstatic, st_iaload, st_iastore, st_baload, st_bastore, st_laload, st_lastore, st_aaload, st_aastore, st_arraylength, st_iadd, st_isub, st_imul, st_iand, st_ior, st_ixor, st_ishl, st_ishr, st_idiv, st_irem, st_ineg, st_land, st_lor, st_lshl, st_i2l, st_l2i, st_i2b, st_i2s, st_i2c, st_lcmp, st_iinc, st_dupI, st_dupR, st_dup2, st_pop, st_goto, st_if_eq, st_icmp_eq, st_if_ne, st_icmp_ne, st_if_lt, st_icmp_lt, st_if_ge, st_icmp_ge, st_if_gt, st_icmp_gt, st_if_le, st_icmp_le, st_tsw, st_lsw, st_newarray, st_anewarray, st_new, st_invokevirtual, st_invokespecial, oin_ref, st_static, st_max, st_min, st_abs, st_copyi, st_copyl, st_ireturn, st_lreturn, st_areturn, st_return, rn_succ, inl_nil, inl_cons, rno_some, oi_some, ol_some, or_some, lk_cons, ins_nil, ins_cons, rm_nil, rm_int, rm_ref, rm_long, pop_0, pop_1, pop_2, pop_3, pop_4, pop_5, pop_6, la_nil, la_int, la_ref, la_long, cat_nil, cat_int, cat_ref, cat_long, call_succ, cont_some, cont_none, rcv_0, rcv_1, rcv_2, rcv_3, rcv_4, rcv_5, rcv_6, rcv_7, rcv_8, rcv_s, rf_some, ret_0, ret_10, ret_11, ret_ite, ite_0, sw_nil, sw_cons, ln_some, isk_some, al_some, ↓reduceIte, Nat.reduceAdd, Nat.reduceEqDiff, Nat.reduceLeDiff, Nat.reduceLT, Int32.reduceLT, Int32.reduceLE, Int32.reduceToNatClampNeg, Int32.reduceOfNat, Int32.reduceAdd, Int32.reduceSub, Int.reduceEq, Int.reduceNeg, Int.reduceLT, Int32.reduceOfInt, Int64.reduceOfInt, Bool.false_eq_true, true_and, and_true, eq_self, not_true_eq_false, not_false_eq_true, false_imp_iff, true_imp_iff, forall_const, or_true, true_or, ne_eq, Nat.zero_add, Nat.add_zero, Nat.le_refl, reduceCtorEq, Ft10, bI_0, ← nI_succ]
        rw [hset]
        refine ⟨fun h1 => ?_, fun h1 => ?_⟩
        · refine ih (m + 1) I2 (by omega) b1 b2 ?_
          unfold firstC
          rw [g3]
          simp only [h1]
          rfl
        · have hs : firstC (fun m => setC n (bts n k m (tw I 62))) (m + 1) = some m := by
            unfold firstC
            rw [g3]
            simp only [(Bool.not_eq_false _).mp h1]
            rfl
          have := h I2 b2
          rw [show N = m + 1 + r by omega, first_st hs] at this
          exact this
      by_cases hm0 : m = 0
      · subst hm0
        refine pm_gos (n := 20) (stops := [2, 18]) ?_
        simp only [st_iload_n, st_iload, st_lload_n, st_aload_n, st_aload, st_istore_n, st_istore, st_astore_n, st_astore, st_iconst, st_bipush, st_sipush, st_lconst, st_ldc, st_ldc_w, st_ldc2_w, st_getfield, st_putfieldI, st_putfieldR, st_getstatic, st_iaload, st_iastore, st_baload, st_bastore, st_laload, st_lastore, st_aaload, st_aastore, st_arraylength, st_iadd, st_isub, st_imul, st_iand, st_ior, st_ixor, st_ishl, st_ishr, st_idiv, st_irem, st_ineg, st_land, st_lor, st_lshl, st_i2l, st_l2i, st_i2b, st_i2s, st_i2c, st_lcmp, st_iinc, st_dupI, st_dupR, st_dup2, st_pop, st_goto, st_if_eq, st_icmp_eq, st_if_ne, st_icmp_ne, st_if_lt, st_icmp_lt, st_if_ge, st_icmp_ge, st_if_gt, st_icmp_gt, st_if_le, st_icmp_le, st_tsw, st_lsw, st_newarray, st_anewarray, st_new, st_invokevirtual, st_invokespecial, oin_ref, st_static, st_max, st_min, st_abs, st_copyi, st_copyl, st_ireturn, st_lreturn, st_areturn, st_return, rn_succ, inl_nil, inl_cons, rno_some, oi_some, ol_some, or_some, lk_cons, ins_nil, ins_cons, rm_nil, rm_int, rm_ref, rm_long, pop_0, pop_1, pop_2, pop_3, pop_4, pop_5, pop_6, la_nil, la_int, la_ref, la_long, cat_nil, cat_int, cat_ref, cat_long, call_succ, cont_some, cont_none, rcv_0, rcv_1, rcv_2, rcv_3, rcv_4, rcv_5, rcv_6, rcv_7, rcv_8, rcv_s, rf_some, ret_0, ret_10, ret_11, ret_ite, ite_0, sw_nil, sw_cons, ln_some, isk_some, al_some, ↓reduceIte, Nat.reduceAdd, Nat.reduceEqDiff, Nat.reduceLeDiff, Nat.reduceLT, Int32.reduceLT, Int32.reduceLE, Int32.reduceToNatClampNeg, Int32.reduceOfNat, Int32.reduceAdd, Int32.reduceSub, Int.reduceEq, Int.reduceNeg, Int.reduceLT, Int32.reduceOfInt, Int64.reduceOfInt, Bool.false_eq_true, true_and, and_true, eq_self, not_true_eq_false, not_false_eq_true, false_imp_iff, true_imp_iff, forall_const, or_true, true_or, ne_eq, Nat.zero_add, Nat.add_zero, Nat.le_refl, reduceCtorEq, Ft10, hlt, show nI 0 ≤ 0 from by decide]
        exact at18 I1 g1 g2
      · have hm1 : ¬ nI m ≤ 0 := nI_nle (by omega) (by omega)
        have hn1 : I1 62 0 = nI n := by
          have := congrFun (g1 0 (by omega)) 0
          rw [bts_np] at this
          exact this.trans hn
        obtain ⟨z1, z2, -⟩ := isK_lt hq
        refine pm_gos (n := 20) (stops := [2, 18]) ?_
        simp only [st_iload_n, st_iload, st_lload_n, st_aload_n, st_aload, st_istore_n, st_istore, st_astore_n, st_astore, st_iconst, st_bipush, st_sipush, st_lconst, st_ldc, st_ldc_w, st_ldc2_w, st_getfield, st_putfieldI, st_putfieldR, st_getstatic, st_iaload, st_iastore, st_baload, st_bastore, st_laload, st_lastore, st_aaload, st_aastore, st_arraylength, st_iadd, st_isub, st_imul, st_iand, st_ior, st_ixor, st_ishl, st_ishr, st_idiv, st_irem, st_ineg, st_land, st_lor, st_lshl, st_i2l, st_l2i, st_i2b, st_i2s, st_i2c, st_lcmp, st_iinc, st_dupI, st_dupR, st_dup2, st_pop, st_goto, st_if_eq, st_icmp_eq, st_if_ne, st_icmp_ne, st_if_lt, st_icmp_lt, st_if_ge, st_icmp_ge, st_if_gt, st_icmp_gt, st_if_le, st_icmp_le, st_tsw, st_lsw, st_newarray, st_anewarray, st_new, st_invokevirtual, st_invokespecial, oin_ref, st_static, st_max, st_min, st_abs, st_copyi, st_copyl, st_ireturn, st_lreturn, st_areturn, st_return, rn_succ, inl_nil, inl_cons, rno_some, oi_some, ol_some, or_some, lk_cons, ins_nil, ins_cons, rm_nil, rm_int, rm_ref, rm_long, pop_0, pop_1, pop_2, pop_3, pop_4, pop_5, pop_6, la_nil, la_int, la_ref, la_long, cat_nil, cat_int, cat_ref, cat_long, call_succ, cont_some, cont_none, rcv_0, rcv_1, rcv_2, rcv_3, rcv_4, rcv_5, rcv_6, rcv_7, rcv_8, rcv_s, rf_some, ret_0, ret_10, ret_11, ret_ite, ite_0, sw_nil, sw_cons, ln_some, isk_some, al_some, ↓reduceIte, Nat.reduceAdd, Nat.reduceEqDiff, Nat.reduceLeDiff, Nat.reduceLT, Int32.reduceLT, Int32.reduceLE, Int32.reduceToNatClampNeg, Int32.reduceOfNat, Int32.reduceAdd, Int32.reduceSub, Int.reduceEq, Int.reduceNeg, Int.reduceLT, Int32.reduceOfInt, Int64.reduceOfInt, Bool.false_eq_true, true_and, and_true, eq_self, not_true_eq_false, not_false_eq_true, false_imp_iff, true_imp_iff, forall_const, or_true, true_or, ne_eq, Nat.zero_add, Nat.add_zero, Nat.le_refl, reduceCtorEq, Ft10, hlt, hm1, shF, rrF K]
        refine w_beatGoes (k := k) (q := q) isT62 hn1 hn6 hq hKq (ck_cg (fun f hf => g2 (q + f) (by omega)) hk) hw (by omega) (fun I2 b1 b2 => ?_)
        simp only [st_iload_n, st_iload, st_lload_n, st_aload_n, st_aload, st_istore_n, st_istore, st_astore_n, st_astore, st_iconst, st_bipush, st_sipush, st_lconst, st_ldc, st_ldc_w, st_ldc2_w, st_getfield, st_putfieldI, st_putfieldR, st_getstatic, st_iaload, st_iastore, st_baload, st_bastore, st_laload, st_lastore, st_aaload, st_aastore, st_arraylength, st_iadd, st_isub, st_imul, st_iand, st_ior, st_ixor, st_ishl, st_ishr, st_idiv, st_irem, st_ineg, st_land, st_lor, st_lshl, st_i2l, st_l2i, st_i2b, st_i2s, st_i2c, st_lcmp, st_iinc, st_dupI, st_dupR, st_dup2, st_pop, st_goto, st_if_eq, st_icmp_eq, st_if_ne, st_icmp_ne, st_if_lt, st_icmp_lt, st_if_ge, st_icmp_ge, st_if_gt, st_icmp_gt, st_if_le, st_icmp_le, st_tsw, st_lsw, st_newarray, st_anewarray, st_new, st_invokevirtual, st_invokespecial, oin_ref, st_static, st_max, st_min, st_abs, st_copyi, st_copyl, st_ireturn, st_lreturn, st_areturn, st_return, rn_succ, inl_nil, inl_cons, rno_some, oi_some, ol_some, or_some, lk_cons, ins_nil, ins_cons, rm_nil, rm_int, rm_ref, rm_long, pop_0, pop_1, pop_2, pop_3, pop_4, pop_5, pop_6, la_nil, la_int, la_ref, la_long, cat_nil, cat_int, cat_ref, cat_long, call_succ, cont_some, cont_none, rcv_0, rcv_1, rcv_2, rcv_3, rcv_4, rcv_5, rcv_6, rcv_7, rcv_8, rcv_s, rf_some, ret_0, ret_10, ret_11, ret_ite, ite_0, sw_nil, sw_cons, ln_some, isk_some, al_some, ↓reduceIte, Nat.reduceAdd, Nat.reduceEqDiff, Nat.reduceLeDiff, Nat.reduceLT, Int32.reduceLT, Int32.reduceLE, Int32.reduceToNatClampNeg, Int32.reduceOfNat, Int32.reduceAdd, Int32.reduceSub, Int.reduceEq, Int.reduceNeg, Int.reduceLT, Int32.reduceOfInt, Int64.reduceOfInt, Bool.false_eq_true, true_and, and_true, eq_self, not_true_eq_false, not_false_eq_true, false_imp_iff, true_imp_iff, forall_const, or_true, true_or, ne_eq, Nat.zero_add, Nat.add_zero, Nat.le_refl, reduceCtorEq, Ft10]
        refine at18 I2 ?_ (fun a ha => by rw [b2 a (by omega)]; exact g2 a ha)
        have := ve_tr (fun f hf => funext (fun i => b1 f i hf)) (bt_ve g1 n k)
        obtain ⟨m', rfl⟩ : ∃ m', m = m' + 1 := ⟨m - 1, by omega⟩
        exact this
  refine pm_run_wp (n := 20) (stops := [2]) ?_
  simp only [st_iload_n, st_iload, st_lload_n, st_aload_n, st_aload, st_istore_n, st_istore, st_astore_n, st_astore, st_iconst, st_bipush, st_sipush, st_lconst, st_ldc, st_ldc_w, st_ldc2_w, st_getfield, st_putfieldI, st_putfieldR, st_getstatic, st_iaload, st_iastore, st_baload, st_bastore, st_laload, st_lastore, st_aaload, st_aastore, st_arraylength, st_iadd, st_isub, st_imul, st_iand, st_ior, st_ixor, st_ishl, st_ishr, st_idiv, st_irem, st_ineg, st_land, st_lor, st_lshl, st_i2l, st_l2i, st_i2b, st_i2s, st_i2c, st_lcmp, st_iinc, st_dupI, st_dupR, st_dup2, st_pop, st_goto, st_if_eq, st_icmp_eq, st_if_ne, st_icmp_ne, st_if_lt, st_icmp_lt, st_if_ge, st_icmp_ge, st_if_gt, st_icmp_gt, st_if_le, st_icmp_le, st_tsw, st_lsw, st_newarray, st_anewarray, st_new, st_invokevirtual, st_invokespecial, oin_ref, st_static, st_max, st_min, st_abs, st_copyi, st_copyl, st_ireturn, st_lreturn, st_areturn, st_return, rn_succ, inl_nil, inl_cons, rno_some, oi_some, ol_some, or_some, lk_cons, ins_nil, ins_cons, rm_nil, rm_int, rm_ref, rm_long, pop_0, pop_1, pop_2, pop_3, pop_4, pop_5, pop_6, la_nil, la_int, la_ref, la_long, cat_nil, cat_int, cat_ref, cat_long, call_succ, cont_some, cont_none, rcv_0, rcv_1, rcv_2, rcv_3, rcv_4, rcv_5, rcv_6, rcv_7, rcv_8, rcv_s, rf_some, ret_0, ret_10, ret_11, ret_ite, ite_0, sw_nil, sw_cons, ln_some, isk_some, al_some, ↓reduceIte, Nat.reduceAdd, Nat.reduceEqDiff, Nat.reduceLeDiff, Nat.reduceLT, Int32.reduceLT, Int32.reduceLE, Int32.reduceToNatClampNeg, Int32.reduceOfNat, Int32.reduceAdd, Int32.reduceSub, Int.reduceEq, Int.reduceNeg, Int.reduceLT, Int32.reduceOfInt, Int64.reduceOfInt, Bool.false_eq_true, true_and, and_true, eq_self, not_true_eq_false, not_false_eq_true, false_imp_iff, true_imp_iff, forall_const, or_true, true_or, ne_eq, Nat.zero_add, Nat.add_zero, Nat.le_refl, reduceCtorEq, Ft10]
  exact loop N 0 I (by omega) (fun _ _ => rfl) (fun _ _ => rfl) rfl
end PLF
