/-! the best change of seats -/
def swS (w : Vw) (i j : Nat) : Vw := stV (stV w 3 i (w 3 j)) 3 j (w 3 i)
theorem sw_vq {w w' : Vw} (h : VQ w w') {i j : Nat} (hi : i < 6) (hj : j < 6) : VQ (swS w i j) (swS w' i j) := by
  unfold swS
  rw [h.2.1 3 i (by omega) (by omega) hi, h.2.1 3 j (by omega) (by omega) hj]
  exact stv_vq (stv_vq h _ _ _) _ _ _
noncomputable def csS (n : Nat) (k : ktp) (w : Vw) (s : Nat × Int32) (i j : Nat) : Nat × Int32 := match sbC n k (swS w i j) s.1 with
  | some m => (m, 10 * nI i + nI j)
  | none => s
noncomputable def csI (n : Nat) (k : ktp) (w : Vw) (i : Nat) (s : Nat × Int32) : Nat → Nat × Int32
  | 0 => s
  | m + 1 => csS n k w (csI n k w i s m) i (i + 1 + m)
noncomputable def csO (n : Nat) (k : ktp) (w : Vw) : Nat → Nat × Int32
  | 0 => ((sbC n k w 61).getD 61, -5)
  | i + 1 => csI n k w i (csO n k w i) (n - 1 - i)
theorem csS_le {n : Nat} {k : ktp} {w : Vw} {s : Nat × Int32} {i j : Nat} : (csS n k w s i j).1 ≤ s.1 := by
  unfold csS
  cases h : sbC n k (swS w i j) s.1 with
  | none => exact Nat.le_refl _
  | some m => have := first_lt h; exact Nat.le_of_lt this
theorem csI_le {n : Nat} {k : ktp} {w : Vw} {s : Nat × Int32} {i : Nat} : ∀ m, (csI n k w i s m).1 ≤ s.1
  | 0 => Nat.le_refl _
  | m + 1 => Nat.le_trans csS_le (csI_le m)
theorem csO_le {n : Nat} {k : ktp} {w : Vw} : ∀ i, (csO n k w i).1 ≤ 61
  | 0 => by
    unfold csO
    cases h : sbC n k w 61 with
    | none => exact Nat.le_refl _
    | some m => have := first_lt h; exact Nat.le_of_lt this
  | i + 1 => Nat.le_trans (csI_le _) (csO_le i)
theorem csS_vq {w w' : Vw} (h : VQ w w') {n : Nat} (hn : n ≤ 6) (k : ktp) (s : Nat × Int32) {i j : Nat} (hi : i < 6) (hj : j < 6) : csS n k w s i j = csS n k w' s i j := by
  unfold csS
  rw [sb_vq (sw_vq h hi hj) hn]
theorem csI_vq {w w' : Vw} (h : VQ w w') {n : Nat} (hn : n ≤ 6) (k : ktp) (s : Nat × Int32) {i : Nat} : ∀ m, i + 1 + m ≤ 6 → csI n k w i s m = csI n k w' i s m
  | 0, _ => rfl
  | m + 1, hm => by
    unfold csI
    rw [csI_vq h hn k s m (by omega), csS_vq h hn k _ (by omega) (by omega)]
theorem csO_vq {w w' : Vw} (h : VQ w w') {n : Nat} (hn : n ≤ 6) (k : ktp) : ∀ i, i ≤ n → csO n k w i = csO n k w' i
  | 0, _ => by unfold csO; rw [sb_vq h hn]
  | i + 1, hi => by
    unfold csO
    rw [csO_vq h hn k i (by omega), csI_vq h hn k _ _ (by omega)]
theorem foN_getD {o : Option Nat} : foN o 61 = nI (o.getD 61) := by
  cases o <;> rfl
section PLX
variable {X : pm_X} {d : Nat} {I : pm_I} {L : pm_L} {Q : pm_Q} {K : Nat → Nat} {q t : Nat}
theorem w_bestChangeOfSeats {n : Nat} {k : ktp} (hn : I 37 0 = nI n) (hn6 : n ≤ 6) (hq : isK q) (hKq : K 37 = q) (hk : CK I q k) (hw : WK k)
    (h : ∀ (I' : pm_I) (K' : Nat → Nat), (∀ a, (a < 62 ∨ 72 < a) → I' a = I a) → KE K' K → Q (some (.int (csO n k (tw I 37) n).2)) SH I' L (RR K')) : pm_wp X (d + 7) 12 0 [(0, .ref 61)] [] 0 0 SH I L (RR K) Q := by
  obtain ⟨z1, z2, z3⟩ := isK_lt hq
  have inner : ∀ i, i < n → (∀ (s : Nat × Int32) (I1 : pm_I) (K1 : Nat → Nat) (o : List (Nat × Value)), s = csI n k (tw I 37) i (csO n k (tw I 37) i) (n - 1 - i) → (∀ a, (a < 62 ∨ 72 < a) → I1 a = I a) → KE K1 K → (o = [] ∨ ∃ x, o = [(5, .int x)]) →
        pm_wp X (d + 7) 12 18 ([(0, .ref 61), (1, .int (nI s.1)), (2, .int s.2), (3, .int (nI (i + 1))), (4, .int (nI n))] ++ o) [] 0 0 SH I1 L (RR K1) Q) →
      ∀ r m (s : Nat × Int32) (I1 : pm_I) (K1 : Nat → Nat) (o : List (Nat × Value)), i + 1 + m + r = n → s = csI n k (tw I 37) i (csO n k (tw I 37) i) m → (∀ a, (a < 62 ∨ 72 < a) → I1 a = I a) → KE K1 K → (o = [] ∨ ∃ x, o = [(5, .int x)]) →
      pm_wp X (d + 7) 12 34 ([(0, .ref 61), (1, .int (nI s.1)), (2, .int s.2), (3, .int (nI i)), (4, .int (nI (i + 1 + m)))] ++ o) [] 0 0 SH I1 L (RR K1) Q := by
    intro i hi out r
    induction r with
    | zero =>
      intro m s I1 K1 o hm hs g1 g2 ho
      have hn1 : I1 37 0 = nI n := by rw [g1 37 (by omega)]; exact hn
      have hmm : i + 1 + m = n := by omega
      have := out s I1 K1 o (by rw [hs, show n - 1 - i = m by omega]) g1 g2 ho
      rw [hmm]
      rcases ho with rfl | ⟨x0, rfl⟩
      all_goals
        simp only [List.append_nil, List.cons_append, List.nil_append] at this ⊢
        refine pm_gos (n := 90) (stops := [18, 34]) ?_
        simp only [st_iload_n, st_iload, st_lload_n, st_aload_n, st_aload, st_istore_n, st_istore, st_astore_n, st_astore, st_iconst, st_bipush, st_sipush, st_lconst, st_ldc, st_ldc_w, st_ldc2_w, st_getfield, st_putfieldI, st_putfieldR, st_getstatic, st_iaload, st_iastore, st_baload, st_bastore, st_laload, st_lastore, st_aaload, st_aastore, st_arraylength, st_iadd, st_isub, st_imul, st_iand, st_ior, st_ixor, st_ishl, st_ishr, st_idiv, st_irem, st_ineg, st_land, st_lor, st_lshl, st_i2l, st_l2i, st_i2b, st_i2s, st_i2c, st_lcmp, st_iinc, st_dupI, st_dupR, st_dup2, st_pop, st_goto, st_if_eq, st_icmp_eq, st_if_ne, st_icmp_ne, st_if_lt, st_icmp_lt, st_if_ge, st_icmp_ge, st_if_gt, st_icmp_gt, st_if_le, st_icmp_le, st_tsw, st_lsw, st_newarray, st_anewarray, st_new, st_invokevirtual, st_invokespecial, oin_ref, st_static, st_max, st_min, st_abs, st_copyi, st_copyl, st_ireturn, st_lreturn, st_areturn, st_return, rn_succ, inl_nil, inl_cons, rno_some, oi_some, ol_some, or_some, lk_cons, ins_nil, ins_cons, rm_nil, rm_int, rm_ref, rm_long, pop_0, pop_1, pop_2, pop_3, pop_4, pop_5, pop_6, la_nil, la_int, la_ref, la_long, cat_nil, cat_int, cat_ref, cat_long, call_succ, cont_some, cont_none, rcv_0, rcv_1, rcv_2, rcv_3, rcv_4, rcv_5, rcv_6, rcv_7, rcv_8, rcv_s, rf_some, ret_0, ret_10, ret_11, ret_ite, ite_0, sw_nil, sw_cons, ln_some, isk_some, al_some, ↓reduceIte, Nat.reduceAdd, Nat.reduceEqDiff, Nat.reduceLeDiff, Nat.reduceLT, Int32.reduceLT, Int32.reduceLE, Int32.reduceToNatClampNeg, Int32.reduceOfNat, Int32.reduceAdd, Int32.reduceSub, Int.reduceEq, Int.reduceNeg, Int.reduceLT, Int32.reduceOfInt, Int64.reduceOfInt, Bool.false_eq_true, true_and, and_true, eq_self, not_true_eq_false, not_false_eq_true, false_imp_iff, true_imp_iff, forall_const, or_true, true_or, ne_eq, Nat.zero_add, Nat.add_zero, Nat.le_refl, reduceCtorEq, Ft12, shF, rrF K1, hn1, Int32.le_refl, ← nI_succ]
        exact this
    | succ r ih =>
      intro m s I1 K1 o hm hs g1 g2 ho
      have hn1 : I1 37 0 = nI n := by rw [g1 37 (by omega)]; exact hn
      have hlt : ¬ nI n ≤ nI (i + 1 + m) := nI_ge (by omega) (by omega)
      have hK1 : K1 37 = q := (g2 37 (by omega)).trans hKq
      have hs61 : s.1 ≤ 61 := by rw [hs]; exact Nat.le_trans (csI_le _) (csO_le _)
      have hv1 : vp_in (nI i) 6 := vi (by omega) (by omega)
      have hc1 : (nI i).toNatClampNeg = i := nI_clamp (by omega)
      have hv2 : vp_in (nI (i + 1 + m)) 6 := vi (by omega) (by omega)
      have hc2 : (nI (i + 1 + m)).toNatClampNeg = i + 1 + m := nI_clamp (by omega)
      have ihn : ∀ (I3 : pm_I) (K3 : Nat → Nat) (x : Int32), (∀ a, (a < 62 ∨ 72 < a) → I3 a = I a) → KE K3 K → _ :=
        fun I3 K3 x f1 f2 => ih (m + 1) (csS n k (tw I 37) s i (i + 1 + m)) I3 K3 [(5, .int x)] (by omega) (by rw [hs]; rfl) f1 f2 (Or.inr ⟨x, rfl⟩)
      simp only [List.append_nil, List.cons_append, List.nil_append] at ihn
      rcases ho with rfl | ⟨x0, rfl⟩
      all_goals
        simp only [List.append_nil, List.cons_append, List.nil_append]
        refine pm_gos (n := 90) (stops := [18, 34]) ?_
        simp only [st_iload_n, st_iload, st_lload_n, st_aload_n, st_aload, st_istore_n, st_istore, st_astore_n, st_astore, st_iconst, st_bipush, st_sipush, st_lconst, st_ldc, st_ldc_w, st_ldc2_w, st_getfield, st_putfieldI, st_putfieldR, st_getstatic, st_iaload, st_iastore, st_baload, st_bastore, st_laload, st_lastore, st_aaload, st_aastore, st_arraylength, st_iadd, st_isub, st_imul, st_iand, st_ior, st_ixor, st_ishl, st_ishr, st_idiv, st_irem, st_ineg, st_land, st_lor, st_lshl, st_i2l, st_l2i, st_i2b, st_i2s, st_i2c, st_lcmp, st_iinc, st_dupI, st_dupR, st_dup2, st_pop, st_goto, st_if_eq, st_icmp_eq, st_if_ne, st_icmp_ne, st_if_lt, st_icmp_lt, st_if_ge, st_icmp_ge, st_if_gt, st_icmp_gt, st_if_le, st_icmp_le, st_tsw, st_lsw, st_newarray, st_anewarray, st_new, st_invokevirtual, st_invokespecial, oin_ref, st_static, st_max, st_min, st_abs, st_copyi, st_copyl, st_ireturn, st_lreturn, st_areturn, st_return, rn_succ, inl_nil, inl_cons, rno_some, oi_some, ol_some, or_some, lk_cons, ins_nil, ins_cons, rm_nil, rm_int, rm_ref, rm_long, pop_0, pop_1, pop_2, pop_3, pop_4, pop_5, pop_6, la_nil, la_int, la_ref, la_long, cat_nil, cat_int, cat_ref, cat_long, call_succ, cont_some, cont_none, rcv_0, rcv_1, rcv_2, rcv_3, rcv_4, rcv_5, rcv_6, rcv_7, rcv_8, rcv_s, rf_some, ret_0, ret_10, ret_11, ret_ite, ite_0, sw_nil, sw_cons, ln_some, isk_some, al_some, ↓reduceIte, Nat.reduceAdd, Nat.reduceEqDiff, Nat.reduceLeDiff, Nat.reduceLT, Int32.reduceLT, Int32.reduceLE, Int32.reduceToNatClampNeg, Int32.reduceOfNat, Int32.reduceAdd, Int32.reduceSub, Int.reduceEq, Int.reduceNeg, Int.reduceLT, Int32.reduceOfInt, Int64.reduceOfInt, Bool.false_eq_true, true_and, and_true, eq_self, not_true_eq_false, not_false_eq_true, false_imp_iff, true_imp_iff, forall_const, or_true, true_or, ne_eq, Nat.zero_add, Nat.add_zero, Nat.le_refl, reduceCtorEq, Ft12, hlt, shF, rrF K1, hn1]
        refine w_beg (K := K1) (by rw [hK1]; exact z1) (fun I2 K2 b1 b2 b3 b4 => ?_)
        have hn2 : I2 62 0 = nI n := (b1.1 0 (by omega)).trans hn1
        have hK2 : K2 37 = q := (b4 37 (by omega)).trans hK1
        have h40 : I2 40 = I 40 := (b2 40 (by omega)).trans (g1 40 (by omega))
        simp only [st_iload_n, st_iload, st_lload_n, st_aload_n, st_aload, st_istore_n, st_istore, st_astore_n, st_astore, st_iconst, st_bipush, st_sipush, st_lconst, st_ldc, st_ldc_w, st_ldc2_w, st_getfield, st_putfieldI, st_putfieldR, st_getstatic, st_iaload, st_iastore, st_baload, st_bastore, st_laload, st_lastore, st_aaload, st_aastore, st_arraylength, st_iadd, st_isub, st_imul, st_iand, st_ior, st_ixor, st_ishl, st_ishr, st_idiv, st_irem, st_ineg, st_land, st_lor, st_lshl, st_i2l, st_l2i, st_i2b, st_i2s, st_i2c, st_lcmp, st_iinc, st_dupI, st_dupR, st_dup2, st_pop, st_goto, st_if_eq, st_icmp_eq, st_if_ne, st_icmp_ne, st_if_lt, st_icmp_lt, st_if_ge, st_icmp_ge, st_if_gt, st_icmp_gt, st_if_le, st_icmp_le, st_tsw, st_lsw, st_newarray, st_anewarray, st_new, st_invokevirtual, st_invokespecial, oin_ref, st_static, st_max, st_min, st_abs, st_copyi, st_copyl, st_ireturn, st_lreturn, st_areturn, st_return, rn_succ, inl_nil, inl_cons, rno_some, oi_some, ol_some, or_some, lk_cons, ins_nil, ins_cons, rm_nil, rm_int, rm_ref, rm_long, pop_0, pop_1, pop_2, pop_3, pop_4, pop_5, pop_6, la_nil, la_int, la_ref, la_long, cat_nil, cat_int, cat_ref, cat_long, call_succ, cont_some, cont_none, rcv_0, rcv_1, rcv_2, rcv_3, rcv_4, rcv_5, rcv_6, rcv_7, rcv_8, rcv_s, rf_some, ret_0, ret_10, ret_11, ret_ite, ite_0, sw_nil, sw_cons, ln_some, isk_some, al_some, ↓reduceIte, Nat.reduceAdd, Nat.reduceEqDiff, Nat.reduceLeDiff, Nat.reduceLT, Int32.reduceLT, Int32.reduceLE, Int32.reduceToNatClampNeg, Int32.reduceOfNat, Int32.reduceAdd, Int32.reduceSub, Int.reduceEq, Int.reduceNeg, Int.reduceLT, Int32.reduceOfInt, Int64.reduceOfInt, Bool.false_eq_true, true_and, and_true, eq_self, not_true_eq_false, not_false_eq_true, false_imp_iff, true_imp_iff, forall_const, or_true, true_or, ne_eq, Nat.zero_add, Nat.add_zero, Nat.le_refl, reduceCtorEq, Ft12, shF, rrF K2, hv1, hc1, hv2, hc2, h40]
        have e37 : VQ (tw I1 37) (tw I 37) := ve_vq (fun f hf => g1 (37 + f) (by omega))
        have e2 : VQ (tw I2 62) (tw I 37) := vq_tr b1 e37
        have e40 : pm_up I2 65 (pm_up (I2 65) i (I 40 (i + 1 + m))) 40 i = I 40 i := by rw [pm_up_ne (show (40 : Nat) ≠ 65 by omega), h40]
        rw [e40]
        have hn3 : (pm_up (pm_up I2 65 (pm_up (I2 65) i (I 40 (i + 1 + m)))) 65 (pm_up (pm_up I2 65 (pm_up (I2 65) i (I 40 (i + 1 + m))) 65) (i + 1 + m) (I 40 i))) 62 0 = nI n := by
          rw [pm_up_ne (show (62 : Nat) ≠ 65 by omega), pm_up_ne (show (62 : Nat) ≠ 65 by omega)]; exact hn2
        refine w_setl (N := s.1) (n := n) (k := k) rfl hn3 hn6 hq (b3.trans hK1) (ck_cg (fun f hf => ?_) hk) hw (by omega) (fun I3 c1 => ?_)
        · rw [pm_up_ne (by omega), pm_up_ne (by omega), b2 (q + f) (by omega)]
          exact g1 (q + f) (by omega)
        · have et : tw (pm_up (pm_up I2 65 (pm_up (I2 65) i (I 40 (i + 1 + m)))) 65 (pm_up (pm_up I2 65 (pm_up (I2 65) i (I 40 (i + 1 + m))) 65) (i + 1 + m) (I 40 i))) 62 = stV (stV (tw I2 62) 3 i (I 40 (i + 1 + m))) 3 (i + 1 + m) (I 40 i) :=
            (tw_up (pm_up I2 65 (pm_up (I2 65) i (I 40 (i + 1 + m)))) 62 3 (i + 1 + m) (I 40 i)).trans (congrArg (fun w => stV w 3 (i + 1 + m) (I 40 i)) (tw_up I2 62 3 i _))
          have e3 : VQ (stV (stV (tw I2 62) 3 i (I 40 (i + 1 + m))) 3 (i + 1 + m) (I 40 i)) (swS (tw I 37) i (i + 1 + m)) := stv_vq (stv_vq e2 _ _ _) _ _ _
          rw [et, sb_vq e3 hn6 k s.1]
          have hfr : ∀ a, (a < 62 ∨ 72 < a) → I3 a = I a := fun a ha => by
            rw [c1 a ha, pm_up_ne (by omega), pm_up_ne (by omega), b2 a (by omega)]
            exact g1 a ha
          have fin := ihn I3 K2 (foN (sbC n k (swS (tw I 37) i (i + 1 + m)) s.1) 61) hfr (ke_tr b4 g2)
          cases hsb : sbC n k (swS (tw I 37) i (i + 1 + m)) s.1 with
          | none =>
            have hcs : csS n k (tw I 37) s i (i + 1 + m) = s := by unfold csS; rw [hsb]
            rw [hcs, hsb] at fin
            have hle : nI s.1 ≤ foN none 61 := nI_le (b := 61) hs61 (by omega)
            simp only [st_iload_n, st_iload, st_lload_n, st_aload_n, st_aload, st_istore_n, st_istore, st_astore_n, st_astore, st_iconst, st_bipush, st_sipush, st_lconst, st_ldc, st_ldc_w, st_ldc2_w, st_getfield, st_putfieldI, st_putfieldR, st_getstatic, st_iaload, st_iastore, st_baload, st_bastore, st_laload, st_lastore, st_aaload, st_aastore, st_arraylength, st_iadd, st_isub, st_imul, st_iand, st_ior, st_ixor, st_ishl, st_ishr, st_idiv, st_irem, st_ineg, st_land, st_lor, st_lshl, st_i2l, st_l2i, st_i2b, st_i2s, st_i2c, st_lcmp, st_iinc, st_dupI, st_dupR, st_dup2, st_pop, st_goto, st_if_eq, st_icmp_eq, st_if_ne, st_icmp_ne, st_if_lt, st_icmp_lt, st_if_ge, st_icmp_ge, st_if_gt, st_icmp_gt, st_if_le, st_icmp_le, st_tsw, st_lsw, st_newarray, st_anewarray, st_new, st_invokevirtual, st_invokespecial, oin_ref, st_static, st_max, st_min, st_abs, st_copyi, st_copyl, st_ireturn, st_lreturn, st_areturn, st_return, rn_succ, inl_nil, inl_cons, rno_some, oi_some, ol_some, or_some, lk_cons, ins_nil, ins_cons, rm_nil, rm_int, rm_ref, rm_long, pop_0, pop_1, pop_2, pop_3, pop_4, pop_5, pop_6, la_nil, la_int, la_ref, la_long, cat_nil, cat_int, cat_ref, cat_long, call_succ, cont_some, cont_none, rcv_0, rcv_1, rcv_2, rcv_3, rcv_4, rcv_5, rcv_6, rcv_7, rcv_8, rcv_s, rf_some, ret_0, ret_10, ret_11, ret_ite, ite_0, sw_nil, sw_cons, ln_some, isk_some, al_some, ↓reduceIte, Nat.reduceAdd, Nat.reduceEqDiff, Nat.reduceLeDiff, Nat.reduceLT, Int32.reduceLT, Int32.reduceLE, Int32.reduceToNatClampNeg, Int32.reduceOfNat, Int32.reduceAdd, Int32.reduceSub, Int.reduceEq, Int.reduceNeg, Int.reduceLT, Int32.reduceOfInt, Int64.reduceOfInt, Bool.false_eq_true, true_and, and_true, eq_self, not_true_eq_false, not_false_eq_true, false_imp_iff, true_imp_iff, forall_const, or_true, true_or, ne_eq, Nat.zero_add, Nat.add_zero, Nat.le_refl, reduceCtorEq, Ft12, hle, ← nI_succ]
            exact fin
          | some x1 =>
            have hx1 : x1 < s.1 := first_lt hsb
            have hcs : csS n k (tw I 37) s i (i + 1 + m) = (x1, 10 * nI i + nI (i + 1 + m)) := by unfold csS; rw [hsb]
            rw [hcs, hsb] at fin
            have hle : ¬ nI s.1 ≤ foN (some x1) 61 := nI_ge (a := x1) hx1 (by omega)
            simp only [st_iload_n, st_iload, st_lload_n, st_aload_n, st_aload, st_istore_n, st_istore, st_astore_n, st_astore, st_iconst, st_bipush, st_sipush, st_lconst, st_ldc, st_ldc_w, st_ldc2_w, st_getfield, st_putfieldI, st_putfieldR, st_getstatic, st_iaload, st_iastore, st_baload, st_bastore, st_laload, st_lastore, st_aaload, st_aastore, st_arraylength, st_iadd, st_isub, st_imul, st_iand, st_ior, st_ixor, st_ishl, st_ishr, st_idiv, st_irem, st_ineg, st_land, st_lor, st_lshl, st_i2l, st_l2i, st_i2b, st_i2s, st_i2c, st_lcmp, st_iinc, st_dupI, st_dupR, st_dup2, st_pop, st_goto, st_if_eq, st_icmp_eq, st_if_ne, st_icmp_ne, st_if_lt, st_icmp_lt, st_if_ge, st_icmp_ge, st_if_gt, st_icmp_gt, st_if_le, st_icmp_le, st_tsw, st_lsw, st_newarray, st_anewarray, st_new, st_invokevirtual, st_invokespecial, oin_ref, st_static, st_max, st_min, st_abs, st_copyi, st_copyl, st_ireturn, st_lreturn, st_areturn, st_return, rn_succ, inl_nil, inl_cons, rno_some, oi_some, ol_some, or_some, lk_cons, ins_nil, ins_cons, rm_nil, rm_int, rm_ref, rm_long, pop_0, pop_1, pop_2, pop_3, pop_4, pop_5, pop_6, la_nil, la_int, la_ref, la_long, cat_nil, cat_int, cat_ref, cat_long, call_succ, cont_some, cont_none, rcv_0, rcv_1, rcv_2, rcv_3, rcv_4, rcv_5, rcv_6, rcv_7, rcv_8, rcv_s, rf_some, ret_0, ret_10, ret_11, ret_ite, ite_0, sw_nil, sw_cons, ln_some, isk_some, al_some, ↓reduceIte, Nat.reduceAdd, Nat.reduceEqDiff, Nat.reduceLeDiff, Nat.reduceLT, Int32.reduceLT, Int32.reduceLE, Int32.reduceToNatClampNeg, Int32.reduceOfNat, Int32.reduceAdd, Int32.reduceSub, Int.reduceEq, Int.reduceNeg, Int.reduceLT, Int32.reduceOfInt, Int64.reduceOfInt, Bool.false_eq_true, true_and, and_true, eq_self, not_true_eq_false, not_false_eq_true, false_imp_iff, true_imp_iff, forall_const, or_true, true_or, ne_eq, Nat.zero_add, Nat.add_zero, Nat.le_refl, reduceCtorEq, Ft12, hle, ← nI_succ]
            exact fin
  have outer : ∀ r i (I1 : pm_I) (K1 : Nat → Nat) (o : List (Nat × Value)), i + r = n → (∀ a, (a < 62 ∨ 72 < a) → I1 a = I a) → KE K1 K → (o = [] ∨ (∃ x, o = [(4, .int x)]) ∨ ∃ x y, o = [(4, .int x), (5, .int y)]) →
      pm_wp X (d + 7) 12 18 ([(0, .ref 61), (1, .int (nI (csO n k (tw I 37) i).1)), (2, .int (csO n k (tw I 37) i).2), (3, .int (nI i))] ++ o) [] 0 0 SH I1 L (RR K1) Q := by
    intro r
    induction r with
    | zero =>
      intro i I1 K1 o hi g1 g2 ho
      obtain rfl : i = n := by omega
      have hn1 : I1 37 0 = nI i := by rw [g1 37 (by omega)]; exact hn
      rcases ho with rfl | ⟨x0, rfl⟩ | ⟨x0, y0, rfl⟩
      all_goals
        simp only [List.append_nil, List.cons_append, List.nil_append]
        refine pm_gos (n := 90) (stops := [18, 34]) ?_
        simp only [st_iload_n, st_iload, st_lload_n, st_aload_n, st_aload, st_istore_n, st_istore, st_astore_n, st_astore, st_iconst, st_bipush, st_sipush, st_lconst, st_ldc, st_ldc_w, st_ldc2_w, st_getfield, st_putfieldI, st_putfieldR, st_getstatic, st_iaload, st_iastore, st_baload, st_bastore, st_laload, st_lastore, st_aaload, st_aastore, st_arraylength, st_iadd, st_isub, st_imul, st_iand, st_ior, st_ixor, st_ishl, st_ishr, st_idiv, st_irem, st_ineg, st_land, st_lor, st_lshl, st_i2l, st_l2i, st_i2b, st_i2s, st_i2c, st_lcmp, st_iinc, st_dupI, st_dupR, st_dup2, st_pop, st_goto, st_if_eq, st_icmp_eq, st_if_ne, st_icmp_ne, st_if_lt, st_icmp_lt, st_if_ge, st_icmp_ge, st_if_gt, st_icmp_gt, st_if_le, st_icmp_le, st_tsw, st_lsw, st_newarray, st_anewarray, st_new, st_invokevirtual, st_invokespecial, oin_ref, st_static, st_max, st_min, st_abs, st_copyi, st_copyl, st_ireturn, st_lreturn, st_areturn, st_return, rn_succ, inl_nil, inl_cons, rno_some, oi_some, ol_some, or_some, lk_cons, ins_nil, ins_cons, rm_nil, rm_int, rm_ref, rm_long, pop_0, pop_1, pop_2, pop_3, pop_4, pop_5, pop_6, la_nil, la_int, la_ref, la_long, cat_nil, cat_int, cat_ref, cat_long, call_succ, cont_some, cont_none, rcv_0, rcv_1, rcv_2, rcv_3, rcv_4, rcv_5, rcv_6, rcv_7, rcv_8, rcv_s, rf_some, ret_0, ret_10, ret_11, ret_ite, ite_0, sw_nil, sw_cons, ln_some, isk_some, al_some, ↓reduceIte, Nat.reduceAdd, Nat.reduceEqDiff, Nat.reduceLeDiff, Nat.reduceLT, Int32.reduceLT, Int32.reduceLE, Int32.reduceToNatClampNeg, Int32.reduceOfNat, Int32.reduceAdd, Int32.reduceSub, Int.reduceEq, Int.reduceNeg, Int.reduceLT, Int32.reduceOfInt, Int64.reduceOfInt, Bool.false_eq_true, true_and, and_true, eq_self, not_true_eq_false, not_false_eq_true, false_imp_iff, true_imp_iff, forall_const, or_true, true_or, ne_eq, Nat.zero_add, Nat.add_zero, Nat.le_refl, reduceCtorEq, Ft12, shF, rrF K1, hn1, Int32.le_refl]
        exact h I1 K1 g1 g2
    | succ r ih =>
      intro i I1 K1 o hi g1 g2 ho
      have hn1 : I1 37 0 = nI n := by rw [g1 37 (by omega)]; exact hn
      have hlt : ¬ nI n ≤ nI i := nI_ge (by omega) (by omega)
      have inn := inner i (by omega) (fun s I3 K3 o3 hs f1 f2 ho3 => by
        have := ih (i + 1) I3 K3 ((4, .int (nI n)) :: o3) (by omega) f1 f2 (by
          rcases ho3 with rfl | ⟨x, rfl⟩
          · exact Or.inr (Or.inl ⟨_, rfl⟩)
          · exact Or.inr (Or.inr ⟨_, _, rfl⟩))
        rw [show csO n k (tw I 37) (i + 1) = s from hs.symm] at this
        exact this) (n - 1 - i) 0 (csO n k (tw I 37) i) I1 K1
      rcases ho with rfl | ⟨x0, rfl⟩ | ⟨x0, y0, rfl⟩
      · have fin := inn [] (by omega) rfl g1 g2 (Or.inl rfl)
        simp only [List.append_nil, List.cons_append, List.nil_append] at fin ⊢
        refine pm_gos (n := 90) (stops := [18, 34]) ?_
        simp only [st_iload_n, st_iload, st_lload_n, st_aload_n, st_aload, st_istore_n, st_istore, st_astore_n, st_astore, st_iconst, st_bipush, st_sipush, st_lconst, st_ldc, st_ldc_w, st_ldc2_w, st_getfield, st_putfieldI, st_putfieldR, st_getstatic, st_iaload, st_iastore, st_baload, st_bastore, st_laload, st_lastore, st_aaload, st_aastore, st_arraylength, st_iadd, st_isub, st_imul, st_iand, st_ior, st_ixor, st_ishl, st_ishr, st_idiv, st_irem, st_ineg, st_land, st_lor, st_lshl, st_i2l, st_l2i, st_i2b, st_i2s, st_i2c, st_lcmp, st_iinc, st_dupI, st_dupR, st_dup2, st_pop, st_goto, st_if_eq, st_icmp_eq, st_if_ne, st_icmp_ne, st_if_lt, st_icmp_lt, st_if_ge, st_icmp_ge, st_if_gt, st_icmp_gt, st_if_le, st_icmp_le, st_tsw, st_lsw, st_newarray, st_anewarray, st_new, st_invokevirtual, st_invokespecial, oin_ref, st_static, st_max, st_min, st_abs, st_copyi, st_copyl, st_ireturn, st_lreturn, st_areturn, st_return, rn_succ, inl_nil, inl_cons, rno_some, oi_some, ol_some, or_some, lk_cons, ins_nil, ins_cons, rm_nil, rm_int, rm_ref, rm_long, pop_0, pop_1, pop_2, pop_3, pop_4, pop_5, pop_6, la_nil, la_int, la_ref, la_long, cat_nil, cat_int, cat_ref, cat_long, call_succ, cont_some, cont_none, rcv_0, rcv_1, rcv_2, rcv_3, rcv_4, rcv_5, rcv_6, rcv_7, rcv_8, rcv_s, rf_some, ret_0, ret_10, ret_11, ret_ite, ite_0, sw_nil, sw_cons, ln_some, isk_some, al_some, ↓reduceIte, Nat.reduceAdd, Nat.reduceEqDiff, Nat.reduceLeDiff, Nat.reduceLT, Int32.reduceLT, Int32.reduceLE, Int32.reduceToNatClampNeg, Int32.reduceOfNat, Int32.reduceAdd, Int32.reduceSub, Int.reduceEq, Int.reduceNeg, Int.reduceLT, Int32.reduceOfInt, Int64.reduceOfInt, Bool.false_eq_true, true_and, and_true, eq_self, not_true_eq_false, not_false_eq_true, false_imp_iff, true_imp_iff, forall_const, or_true, true_or, ne_eq, Nat.zero_add, Nat.add_zero, Nat.le_refl, reduceCtorEq, Ft12, shF, rrF K1, hn1, hlt, ← nI_succ]
        exact fin
      · have fin := inn [] (by omega) rfl g1 g2 (Or.inl rfl)
        simp only [List.append_nil, List.cons_append, List.nil_append] at fin ⊢
        refine pm_gos (n := 90) (stops := [18, 34]) ?_
        simp only [st_iload_n, st_iload, st_lload_n, st_aload_n, st_aload, st_istore_n, st_istore, st_astore_n, st_astore, st_iconst, st_bipush, st_sipush, st_lconst, st_ldc, st_ldc_w, st_ldc2_w, st_getfield, st_putfieldI, st_putfieldR, st_getstatic, st_iaload, st_iastore, st_baload, st_bastore, st_laload, st_lastore, st_aaload, st_aastore, st_arraylength, st_iadd, st_isub, st_imul, st_iand, st_ior, st_ixor, st_ishl, st_ishr, st_idiv, st_irem, st_ineg, st_land, st_lor, st_lshl, st_i2l, st_l2i, st_i2b, st_i2s, st_i2c, st_lcmp, st_iinc, st_dupI, st_dupR, st_dup2, st_pop, st_goto, st_if_eq, st_icmp_eq, st_if_ne, st_icmp_ne, st_if_lt, st_icmp_lt, st_if_ge, st_icmp_ge, st_if_gt, st_icmp_gt, st_if_le, st_icmp_le, st_tsw, st_lsw, st_newarray, st_anewarray, st_new, st_invokevirtual, st_invokespecial, oin_ref, st_static, st_max, st_min, st_abs, st_copyi, st_copyl, st_ireturn, st_lreturn, st_areturn, st_return, rn_succ, inl_nil, inl_cons, rno_some, oi_some, ol_some, or_some, lk_cons, ins_nil, ins_cons, rm_nil, rm_int, rm_ref, rm_long, pop_0, pop_1, pop_2, pop_3, pop_4, pop_5, pop_6, la_nil, la_int, la_ref, la_long, cat_nil, cat_int, cat_ref, cat_long, call_succ, cont_some, cont_none, rcv_0, rcv_1, rcv_2, rcv_3, rcv_4, rcv_5, rcv_6, rcv_7, rcv_8, rcv_s, rf_some, ret_0, ret_10, ret_11, ret_ite, ite_0, sw_nil, sw_cons, ln_some, isk_some, al_some, ↓reduceIte, Nat.reduceAdd, Nat.reduceEqDiff, Nat.reduceLeDiff, Nat.reduceLT, Int32.reduceLT, Int32.reduceLE, Int32.reduceToNatClampNeg, Int32.reduceOfNat, Int32.reduceAdd, Int32.reduceSub, Int.reduceEq, Int.reduceNeg, Int.reduceLT, Int32.reduceOfInt, Int64.reduceOfInt, Bool.false_eq_true, true_and, and_true, eq_self, not_true_eq_false, not_false_eq_true, false_imp_iff, true_imp_iff, forall_const, or_true, true_or, ne_eq, Nat.zero_add, Nat.add_zero, Nat.le_refl, reduceCtorEq, Ft12, shF, rrF K1, hn1, hlt, ← nI_succ]
        exact fin
      · have fin := inn [(5, .int y0)] (by omega) rfl g1 g2 (Or.inr ⟨_, rfl⟩)
        simp only [List.append_nil, List.cons_append, List.nil_append] at fin ⊢
        refine pm_gos (n := 90) (stops := [18, 34]) ?_
        simp only [st_iload_n, st_iload, st_lload_n, st_aload_n, st_aload, st_istore_n, st_istore, st_astore_n, st_astore, st_iconst, st_bipush, st_sipush, st_lconst, st_ldc, st_ldc_w, st_ldc2_w, st_getfield, st_putfieldI, st_putfieldR, st_getstatic, st_iaload, st_iastore, st_baload, st_bastore, st_laload, st_lastore, st_aaload, st_aastore, st_arraylength, st_iadd, st_isub, st_imul, st_iand, st_ior, st_ixor, st_ishl, st_ishr, st_idiv, st_irem, st_ineg, st_land, st_lor, st_lshl, st_i2l, st_l2i, st_i2b, st_i2s, st_i2c, st_lcmp, st_iinc, st_dupI, st_dupR, st_dup2, st_pop, st_goto, st_if_eq, st_icmp_eq, st_if_ne, st_icmp_ne, st_if_lt, st_icmp_lt, st_if_ge, st_icmp_ge, st_if_gt, st_icmp_gt, st_if_le, st_icmp_le, st_tsw, st_lsw, st_newarray, st_anewarray, st_new, st_invokevirtual, st_invokespecial, oin_ref, st_static, st_max, st_min, st_abs, st_copyi, st_copyl, st_ireturn, st_lreturn, st_areturn, st_return, rn_succ, inl_nil, inl_cons, rno_some, oi_some, ol_some, or_some, lk_cons, ins_nil, ins_cons, rm_nil, rm_int, rm_ref, rm_long, pop_0, pop_1, pop_2, pop_3, pop_4, pop_5, pop_6, la_nil, la_int, la_ref, la_long, cat_nil, cat_int, cat_ref, cat_long, call_succ, cont_some, cont_none, rcv_0, rcv_1, rcv_2, rcv_3, rcv_4, rcv_5, rcv_6, rcv_7, rcv_8, rcv_s, rf_some, ret_0, ret_10, ret_11, ret_ite, ite_0, sw_nil, sw_cons, ln_some, isk_some, al_some, ↓reduceIte, Nat.reduceAdd, Nat.reduceEqDiff, Nat.reduceLeDiff, Nat.reduceLT, Int32.reduceLT, Int32.reduceLE, Int32.reduceToNatClampNeg, Int32.reduceOfNat, Int32.reduceAdd, Int32.reduceSub, Int.reduceEq, Int.reduceNeg, Int.reduceLT, Int32.reduceOfInt, Int64.reduceOfInt, Bool.false_eq_true, true_and, and_true, eq_self, not_true_eq_false, not_false_eq_true, false_imp_iff, true_imp_iff, forall_const, or_true, true_or, ne_eq, Nat.zero_add, Nat.add_zero, Nat.le_refl, reduceCtorEq, Ft12, shF, rrF K1, hn1, hlt, ← nI_succ]
        exact fin
  refine pm_run_wp (n := 20) (stops := [18]) ?_
  simp only [st_iload_n, st_iload, st_lload_n, st_aload_n, st_aload, st_istore_n, st_istore, st_astore_n, st_astore, st_iconst, st_bipush, st_sipush, st_lconst, st_ldc, st_ldc_w, st_ldc2_w, st_getfield, st_putfieldI, st_putfieldR, st_getstatic, st_iaload, st_iastore, st_baload, st_bastore, st_laload, st_lastore, st_aaload, st_aastore, st_arraylength, st_iadd, st_isub, st_imul, st_iand, st_ior, st_ixor, st_ishl, st_ishr, st_idiv, st_irem, st_ineg, st_land, st_lor, st_lshl, st_i2l, st_l2i, st_i2b, st_i2s, st_i2c, st_lcmp, st_iinc, st_dupI, st_dupR, st_dup2, st_pop, st_goto, st_if_eq, st_icmp_eq, st_if_ne, st_icmp_ne, st_if_lt, st_icmp_lt, st_if_ge, st_icmp_ge, st_if_gt, st_icmp_gt, st_if_le, st_icmp_le, st_tsw, st_lsw, st_newarray, st_anewarray, st_new, st_invokevirtual, st_invokespecial, oin_ref, st_static, st_max, st_min, st_abs, st_copyi, st_copyl, st_ireturn, st_lreturn, st_areturn, st_return, rn_succ, inl_nil, inl_cons, rno_some, oi_some, ol_some, or_some, lk_cons, ins_nil, ins_cons, rm_nil, rm_int, rm_ref, rm_long, pop_0, pop_1, pop_2, pop_3, pop_4, pop_5, pop_6, la_nil, la_int, la_ref, la_long, cat_nil, cat_int, cat_ref, cat_long, call_succ, cont_some, cont_none, rcv_0, rcv_1, rcv_2, rcv_3, rcv_4, rcv_5, rcv_6, rcv_7, rcv_8, rcv_s, rf_some, ret_0, ret_10, ret_11, ret_ite, ite_0, sw_nil, sw_cons, ln_some, isk_some, al_some, ↓reduceIte, Nat.reduceAdd, Nat.reduceEqDiff, Nat.reduceLeDiff, Nat.reduceLT, Int32.reduceLT, Int32.reduceLE, Int32.reduceToNatClampNeg, Int32.reduceOfNat, Int32.reduceAdd, Int32.reduceSub, Int.reduceEq, Int.reduceNeg, Int.reduceLT, Int32.reduceOfInt, Int64.reduceOfInt, Bool.false_eq_true, true_and, and_true, eq_self, not_true_eq_false, not_false_eq_true, false_imp_iff, true_imp_iff, forall_const, or_true, true_or, ne_eq, Nat.zero_add, Nat.add_zero, Nat.le_refl, reduceCtorEq, Ft12, shF, rrF K]
  refine w_beg (K := K) (by rw [hKq]; exact z1) (fun I1 K1 b1 b2 b3 b4 => ?_)
  simp only [st_iload_n, st_iload, st_lload_n, st_aload_n, st_aload, st_istore_n, st_istore, st_astore_n, st_astore, st_iconst, st_bipush, st_sipush, st_lconst, st_ldc, st_ldc_w, st_ldc2_w, st_getfield, st_putfieldI, st_putfieldR, st_getstatic, st_iaload, st_iastore, st_baload, st_bastore, st_laload, st_lastore, st_aaload, st_aastore, st_arraylength, st_iadd, st_isub, st_imul, st_iand, st_ior, st_ixor, st_ishl, st_ishr, st_idiv, st_irem, st_ineg, st_land, st_lor, st_lshl, st_i2l, st_l2i, st_i2b, st_i2s, st_i2c, st_lcmp, st_iinc, st_dupI, st_dupR, st_dup2, st_pop, st_goto, st_if_eq, st_icmp_eq, st_if_ne, st_icmp_ne, st_if_lt, st_icmp_lt, st_if_ge, st_icmp_ge, st_if_gt, st_icmp_gt, st_if_le, st_icmp_le, st_tsw, st_lsw, st_newarray, st_anewarray, st_new, st_invokevirtual, st_invokespecial, oin_ref, st_static, st_max, st_min, st_abs, st_copyi, st_copyl, st_ireturn, st_lreturn, st_areturn, st_return, rn_succ, inl_nil, inl_cons, rno_some, oi_some, ol_some, or_some, lk_cons, ins_nil, ins_cons, rm_nil, rm_int, rm_ref, rm_long, pop_0, pop_1, pop_2, pop_3, pop_4, pop_5, pop_6, la_nil, la_int, la_ref, la_long, cat_nil, cat_int, cat_ref, cat_long, call_succ, cont_some, cont_none, rcv_0, rcv_1, rcv_2, rcv_3, rcv_4, rcv_5, rcv_6, rcv_7, rcv_8, rcv_s, rf_some, ret_0, ret_10, ret_11, ret_ite, ite_0, sw_nil, sw_cons, ln_some, isk_some, al_some, ↓reduceIte, Nat.reduceAdd, Nat.reduceEqDiff, Nat.reduceLeDiff, Nat.reduceLT, Int32.reduceLT, Int32.reduceLE, Int32.reduceToNatClampNeg, Int32.reduceOfNat, Int32.reduceAdd, Int32.reduceSub, Int.reduceEq, Int.reduceNeg, Int.reduceLT, Int32.reduceOfInt, Int64.reduceOfInt, Bool.false_eq_true, true_and, and_true, eq_self, not_true_eq_false, not_false_eq_true, false_imp_iff, true_imp_iff, forall_const, or_true, true_or, ne_eq, Nat.zero_add, Nat.add_zero, Nat.le_refl, reduceCtorEq, Ft12, shF, rrF K1]
  have hn1 : I1 62 0 = nI n := (b1.1 0 (by omega)).trans hn
  refine w_setl (N := 61) (n := n) (k := k) (by decide) hn1 hn6 hq (b3.trans hKq) (ck_cg (fun f hf => b2 (q + f) (by omega)) hk) hw (by omega) (fun I2 c1 => ?_)
  rw [sb_vq b1 hn6 k 61, foN_getD]
  simp only [st_iload_n, st_iload, st_lload_n, st_aload_n, st_aload, st_istore_n, st_istore, st_astore_n, st_astore, st_iconst, st_bipush, st_sipush, st_lconst, st_ldc, st_ldc_w, st_ldc2_w, st_getfield, st_putfieldI, st_putfieldR, st_getstatic, st_iaload, st_iastore, st_baload, st_bastore, st_laload, st_lastore, st_aaload, st_aastore, st_arraylength, st_iadd, st_isub, st_imul, st_iand, st_ior, st_ixor, st_ishl, st_ishr, st_idiv, st_irem, st_ineg, st_land, st_lor, st_lshl, st_i2l, st_l2i, st_i2b, st_i2s, st_i2c, st_lcmp, st_iinc, st_dupI, st_dupR, st_dup2, st_pop, st_goto, st_if_eq, st_icmp_eq, st_if_ne, st_icmp_ne, st_if_lt, st_icmp_lt, st_if_ge, st_icmp_ge, st_if_gt, st_icmp_gt, st_if_le, st_icmp_le, st_tsw, st_lsw, st_newarray, st_anewarray, st_new, st_invokevirtual, st_invokespecial, oin_ref, st_static, st_max, st_min, st_abs, st_copyi, st_copyl, st_ireturn, st_lreturn, st_areturn, st_return, rn_succ, inl_nil, inl_cons, rno_some, oi_some, ol_some, or_some, lk_cons, ins_nil, ins_cons, rm_nil, rm_int, rm_ref, rm_long, pop_0, pop_1, pop_2, pop_3, pop_4, pop_5, pop_6, la_nil, la_int, la_ref, la_long, cat_nil, cat_int, cat_ref, cat_long, call_succ, cont_some, cont_none, rcv_0, rcv_1, rcv_2, rcv_3, rcv_4, rcv_5, rcv_6, rcv_7, rcv_8, rcv_s, rf_some, ret_0, ret_10, ret_11, ret_ite, ite_0, sw_nil, sw_cons, ln_some, isk_some, al_some, ↓reduceIte, Nat.reduceAdd, Nat.reduceEqDiff, Nat.reduceLeDiff, Nat.reduceLT, Int32.reduceLT, Int32.reduceLE, Int32.reduceToNatClampNeg, Int32.reduceOfNat, Int32.reduceAdd, Int32.reduceSub, Int.reduceEq, Int.reduceNeg, Int.reduceLT, Int32.reduceOfInt, Int64.reduceOfInt, Bool.false_eq_true, true_and, and_true, eq_self, not_true_eq_false, not_false_eq_true, false_imp_iff, true_imp_iff, forall_const, or_true, true_or, ne_eq, Nat.zero_add, Nat.add_zero, Nat.le_refl, reduceCtorEq, Ft12]
  exact outer n 0 I2 K1 [] (by omega) (fun a ha => by rw [c1 a ha]; exact b2 a (by omega)) b4 (Or.inl rfl)
end PLX
