/-! THE MODEL: kitchens, MORE -/
/-- a clause as it is read: its word (0 louder, 1 softer, 2 step, 3 wake, 4 pay), its number, its marks -/
abbrev acl : Type := Nat × Nat × List mk
def ltr (f : Nat) : Nat := ([112, 107, 118, 108, 99, 98] : List Nat).getD f 0
/-- a mark, as the model keeps it -/
def EN (m : mk) (t : Int32) : Prop := (m.1 = 33 ∧ t = -33) ∨ (m.1 = 38 ∧ t = -38) ∨ (m.1 = 124 ∧ t = -124) ∨ ∃ f s x, f < 6 ∧ s < 3 ∧ x ≤ 99 ∧ m = (nI (ltr f), nI (60 + s), nI x) ∧ t = nI (1000 * f + 100 * s + x)
def lastA (wd : Nat) : Nat → List acl → Nat
  | x, [] => x
  | x, c :: r => lastA wd (if c.1 = wd then c.2.1 else x) r
def clA : List acl → List kcl
  | [] => []
  | c :: r => if c.1 = 0 then (nI c.2.1, c.2.2) :: clA r else if c.1 = 1 then (-nI c.2.1, c.2.2) :: clA r else clA r
/-- what a kitchen's clauses come to -/
def kOf (ac : List acl) : ktp := (nI (lastA 2 2 ac), nI (lastA 3 60 ac), mx 1 (nI (lastA 4 5 ac)), clA ac)
/-- one clause as the model keeps it -/
def MC1 (I : pm_I) (c : Nat) (x : acl) : Prop := I 131 c = nI x.1 ∧ I 132 c = nI x.2.1 ∧ (x.1 ≤ 1 → ∃ fr, I 133 c = nI fr ∧ I 134 c = nI (fr + x.2.2.length) ∧ fr + x.2.2.length ≤ 600 ∧ ∀ j m, x.2.2[j]? = some m → EN m (I 135 (fr + j)))
def MCl (I : pm_I) : Nat → List acl → Prop
  | _, [] => True
  | c, x :: r => MC1 I c x ∧ MCl I (c + 1) r
/-- where the clauses that hold begin, and how many they are -/
def MB (I : pm_I) (b len : Nat) : Prop := (I 122 11 = -1 ∧ b = 0 ∧ len = 0) ∨ ∃ f, f < 6 ∧ I 122 11 = nI f ∧ b = 10 * f ∧ I 130 f = nI len
def WA (ac : List acl) : Prop := ac.length ≤ 10 ∧ ∀ x ∈ ac, x.1 ≤ 4 ∧ x.2.1 ≤ 99 ∧ (x.1 ≤ 1 → dpL 0 x.2.2 = some 1)
def MK (I : pm_I) (ac : List acl) : Prop := ∃ b, MB I b ac.length ∧ b ≤ 50 ∧ MCl I b ac ∧ WA ac
/-- what of the model's cells a kitchen's clauses lie in -/
theorem mc_cg {I I' : pm_I} (h : ∀ a, 131 ≤ a → a ≤ 135 → I' a = I a) : ∀ {ac : List acl} {c : Nat}, MCl I c ac → MCl I' c ac
  | [], _, _ => trivial
  | x :: r, c, g => by
    obtain ⟨⟨g1, g2, g3⟩, g4⟩ := g
    refine ⟨⟨by rw [h 131 (by omega) (by omega)]; exact g1, by rw [h 132 (by omega) (by omega)]; exact g2, fun hx => ?_⟩, mc_cg h g4⟩
    obtain ⟨fr, e1, e2, e3, e4⟩ := g3 hx
    exact ⟨fr, by rw [h 133 (by omega) (by omega)]; exact e1, by rw [h 134 (by omega) (by omega)]; exact e2, e3, fun j m hj => by rw [h 135 (by omega) (by omega)]; exact e4 j m hj⟩
theorem mk_cg {I I' : pm_I} {ac : List acl} (h0 : I' 122 11 = I 122 11) (h : ∀ a, 130 ≤ a → a ≤ 135 → I' a = I a) (g : MK I ac) : MK I' ac := by
  obtain ⟨b, g1, g2, g3, g4⟩ := g
  refine ⟨b, ?_, g2, mc_cg (fun a h1 h2 => h a (by omega) h2) g3, g4⟩
  unfold MB at g1 ⊢
  rw [h0, h 130 (by omega) (by omega)]
  exact g1
theorem lastA_le {wd : Nat} : ∀ {ac : List acl} {x : Nat}, (∀ c ∈ ac, c.2.1 ≤ 99) → x ≤ 99 → lastA wd x ac ≤ 99
  | [], _, _, hx => hx
  | c :: r, x, h, hx => by
    unfold lastA
    refine lastA_le (fun c hc => h c (List.mem_cons_of_mem _ hc)) ?_
    split
    · exact h c List.mem_cons_self
    · exact hx
/-- the pile, its top first -/
def PLs (I : pm_I) (s : List Bool) : Prop := ∀ j b, s[j]? = some b → I 138 (s.length - 1 - j) = bI b
theorem bI_nar {b : Bool} : vp_nar .boolean (bI b) = bI b := by cases b <;> rfl
theorem pls_tail {I : pm_I} {a : Bool} {s : List Bool} (h : PLs I (a :: s)) : PLs I s := fun j b hj => by
  have := h (j + 1) b hj
  rw [List.length_cons] at this
  rwa [show s.length + 1 - 1 - (j + 1) = s.length - 1 - j by omega] at this
theorem pls_put {I I' : pm_I} {a : Bool} {s : List Bool} (h : PLs I s) (h1 : I' 138 s.length = bI a) (h2 : ∀ k, k < s.length → I' 138 k = I 138 k) : PLs I' (a :: s) := fun j b hj => by
  rw [List.length_cons]
  cases j with
  | zero =>
    obtain rfl : a = b := by simpa using hj
    exact h1
  | succ j =>
    have hj' : s[j]? = some b := by simpa using hj
    have hl := (List.getElem?_eq_some_iff.mp hj').1
    rw [show s.length + 1 - 1 - (j + 1) = s.length - 1 - j by omega, h2 _ (by omega)]
    exact h j b hj'
section MKT
variable {X : pm_X} {d : Nat} {I : pm_I} {L : pm_L} {Q : pm_Q} {K : Nat → Nat} {n B : Nat}
theorem m_begin {b len : Nat} (hb : MB I b len) (h : Q (some (.int (nI b))) SH I L (RR K)) : pm_wp X d 150 0 [(0, .ref 122)] [] 0 0 SH I L (RR K) Q := by
  refine pm_run_wp (n := 40) (stops := []) ?_
  rcases hb with ⟨e, rfl, -⟩ | ⟨f, hf, e, rfl, -⟩
  · simp only [st_iload_n, st_iload, st_lload_n, st_aload_n, st_aload, st_istore_n, st_istore, st_astore_n, st_astore, st_iconst, st_bipush, st_sipush, st_lconst, st_ldc, st_ldc_w, st_ldc2_w, st_getfield, st_putfieldI, st_putfieldR, st_getstatic, st_iaload, st_iastore, st_baload, st_bastore, st_laload, st_lastore, st_aaload, st_aastore, st_arraylength, st_iadd, st_isub, st_imul, st_iand, st_ior, st_ixor, st_ishl, st_ishr, st_idiv, st_irem, st_ineg, st_land, st_lor, st_lshl, st_i2l, st_l2i, st_i2b, st_i2s, st_i2c, st_lcmp, st_iinc, st_dupI, st_dupR, st_dup2, st_pop, st_goto, st_if_eq, st_icmp_eq, st_if_ne, st_icmp_ne, st_if_lt, st_icmp_lt, st_if_ge, st_icmp_ge, st_if_gt, st_icmp_gt, st_if_le, st_icmp_le, st_tsw, st_lsw, st_newarray, st_anewarray, st_new, st_invokevirtual, st_invokespecial, oin_ref, st_static, st_max, st_min, st_abs, st_copyi, st_copyl, st_ireturn, st_lreturn, st_areturn, st_return, rn_succ, inl_nil, inl_cons, rno_some, oi_some, ol_some, or_some, lk_cons, ins_nil, ins_cons, rm_nil, rm_int, rm_ref, rm_long, pop_0, pop_1, pop_2, pop_3, pop_4, pop_5, pop_6, la_nil, la_int, la_ref, la_long, cat_nil, cat_int, cat_ref, cat_long, call_succ, cont_some, cont_none, rcv_0, rcv_1, rcv_2, rcv_3, rcv_4, rcv_5, rcv_6, rcv_7, rcv_8, rcv_s, rf_some, ret_0, ret_10, ret_11, ret_ite, ite_0, sw_nil, sw_cons, ln_some, isk_some, al_some, ↓reduceIte, Nat.reduceAdd, Nat.reduceEqDiff, Nat.reduceLeDiff, Nat.reduceLT, Int32.reduceLT, Int32.reduceLE, Int32.reduceToNatClampNeg, Int32.reduceOfNat, Int32.reduceAdd, Int32.reduceSub, Int.reduceEq, Int.reduceNeg, Int.reduceLT, Int32.reduceOfInt, Int64.reduceOfInt, Bool.false_eq_true, true_and, and_true, eq_self, not_true_eq_false, not_false_eq_true, false_imp_iff, true_imp_iff, forall_const, or_true, true_or, ne_eq, Nat.zero_add, Nat.add_zero, Nat.le_refl, reduceCtorEq, Ft150, shF, rrF K, e]
    exact h
  · have h0 : 0 ≤ nI f := nI_pos' (by omega)
    have h1 : 10 * nI f = nI (10 * f) := nI_mul 10 f
    simp only [st_iload_n, st_iload, st_lload_n, st_aload_n, st_aload, st_istore_n, st_istore, st_astore_n, st_astore, st_iconst, st_bipush, st_sipush, st_lconst, st_ldc, st_ldc_w, st_ldc2_w, st_getfield, st_putfieldI, st_putfieldR, st_getstatic, st_iaload, st_iastore, st_baload, st_bastore, st_laload, st_lastore, st_aaload, st_aastore, st_arraylength, st_iadd, st_isub, st_imul, st_iand, st_ior, st_ixor, st_ishl, st_ishr, st_idiv, st_irem, st_ineg, st_land, st_lor, st_lshl, st_i2l, st_l2i, st_i2b, st_i2s, st_i2c, st_lcmp, st_iinc, st_dupI, st_dupR, st_dup2, st_pop, st_goto, st_if_eq, st_icmp_eq, st_if_ne, st_icmp_ne, st_if_lt, st_icmp_lt, st_if_ge, st_icmp_ge, st_if_gt, st_icmp_gt, st_if_le, st_icmp_le, st_tsw, st_lsw, st_newarray, st_anewarray, st_new, st_invokevirtual, st_invokespecial, oin_ref, st_static, st_max, st_min, st_abs, st_copyi, st_copyl, st_ireturn, st_lreturn, st_areturn, st_return, rn_succ, inl_nil, inl_cons, rno_some, oi_some, ol_some, or_some, lk_cons, ins_nil, ins_cons, rm_nil, rm_int, rm_ref, rm_long, pop_0, pop_1, pop_2, pop_3, pop_4, pop_5, pop_6, la_nil, la_int, la_ref, la_long, cat_nil, cat_int, cat_ref, cat_long, call_succ, cont_some, cont_none, rcv_0, rcv_1, rcv_2, rcv_3, rcv_4, rcv_5, rcv_6, rcv_7, rcv_8, rcv_s, rf_some, ret_0, ret_10, ret_11, ret_ite, ite_0, sw_nil, sw_cons, ln_some, isk_some, al_some, ↓reduceIte, Nat.reduceAdd, Nat.reduceEqDiff, Nat.reduceLeDiff, Nat.reduceLT, Int32.reduceLT, Int32.reduceLE, Int32.reduceToNatClampNeg, Int32.reduceOfNat, Int32.reduceAdd, Int32.reduceSub, Int.reduceEq, Int.reduceNeg, Int.reduceLT, Int32.reduceOfInt, Int64.reduceOfInt, Bool.false_eq_true, true_and, and_true, eq_self, not_true_eq_false, not_false_eq_true, false_imp_iff, true_imp_iff, forall_const, or_true, true_or, ne_eq, Nat.zero_add, Nat.add_zero, Nat.le_refl, reduceCtorEq, Ft150, shF, rrF K, e, h0, h1]
    exact h
theorem m_behind {b len : Nat} (hb : MB I b len) (h : Q (some (.int (nI (b + len)))) SH I L (RR K)) : pm_wp X d 151 0 [(0, .ref 122)] [] 0 0 SH I L (RR K) Q := by
  refine pm_run_wp (n := 40) (stops := []) ?_
  rcases hb with ⟨e, rfl, rfl⟩ | ⟨f, hf, e, rfl, el⟩
  · simp only [st_iload_n, st_iload, st_lload_n, st_aload_n, st_aload, st_istore_n, st_istore, st_astore_n, st_astore, st_iconst, st_bipush, st_sipush, st_lconst, st_ldc, st_ldc_w, st_ldc2_w, st_getfield, st_putfieldI, st_putfieldR, st_getstatic, st_iaload, st_iastore, st_baload, st_bastore, st_laload, st_lastore, st_aaload, st_aastore, st_arraylength, st_iadd, st_isub, st_imul, st_iand, st_ior, st_ixor, st_ishl, st_ishr, st_idiv, st_irem, st_ineg, st_land, st_lor, st_lshl, st_i2l, st_l2i, st_i2b, st_i2s, st_i2c, st_lcmp, st_iinc, st_dupI, st_dupR, st_dup2, st_pop, st_goto, st_if_eq, st_icmp_eq, st_if_ne, st_icmp_ne, st_if_lt, st_icmp_lt, st_if_ge, st_icmp_ge, st_if_gt, st_icmp_gt, st_if_le, st_icmp_le, st_tsw, st_lsw, st_newarray, st_anewarray, st_new, st_invokevirtual, st_invokespecial, oin_ref, st_static, st_max, st_min, st_abs, st_copyi, st_copyl, st_ireturn, st_lreturn, st_areturn, st_return, rn_succ, inl_nil, inl_cons, rno_some, oi_some, ol_some, or_some, lk_cons, ins_nil, ins_cons, rm_nil, rm_int, rm_ref, rm_long, pop_0, pop_1, pop_2, pop_3, pop_4, pop_5, pop_6, la_nil, la_int, la_ref, la_long, cat_nil, cat_int, cat_ref, cat_long, call_succ, cont_some, cont_none, rcv_0, rcv_1, rcv_2, rcv_3, rcv_4, rcv_5, rcv_6, rcv_7, rcv_8, rcv_s, rf_some, ret_0, ret_10, ret_11, ret_ite, ite_0, sw_nil, sw_cons, ln_some, isk_some, al_some, ↓reduceIte, Nat.reduceAdd, Nat.reduceEqDiff, Nat.reduceLeDiff, Nat.reduceLT, Int32.reduceLT, Int32.reduceLE, Int32.reduceToNatClampNeg, Int32.reduceOfNat, Int32.reduceAdd, Int32.reduceSub, Int.reduceEq, Int.reduceNeg, Int.reduceLT, Int32.reduceOfInt, Int64.reduceOfInt, Bool.false_eq_true, true_and, and_true, eq_self, not_true_eq_false, not_false_eq_true, false_imp_iff, true_imp_iff, forall_const, or_true, true_or, ne_eq, Nat.zero_add, Nat.add_zero, Nat.le_refl, reduceCtorEq, Ft151, shF, rrF K, e]
    exact h
  · have h0 : 0 ≤ nI f := nI_pos' (by omega)
    have h1 : 10 * nI f = nI (10 * f) := nI_mul 10 f
    have hv : vp_in (nI f) 6 := vi (by omega) (by omega)
    have hc : (nI f).toNatClampNeg = f := nI_clamp (by omega)
    simp only [st_iload_n, st_iload, st_lload_n, st_aload_n, st_aload, st_istore_n, st_istore, st_astore_n, st_astore, st_iconst, st_bipush, st_sipush, st_lconst, st_ldc, st_ldc_w, st_ldc2_w, st_getfield, st_putfieldI, st_putfieldR, st_getstatic, st_iaload, st_iastore, st_baload, st_bastore, st_laload, st_lastore, st_aaload, st_aastore, st_arraylength, st_iadd, st_isub, st_imul, st_iand, st_ior, st_ixor, st_ishl, st_ishr, st_idiv, st_irem, st_ineg, st_land, st_lor, st_lshl, st_i2l, st_l2i, st_i2b, st_i2s, st_i2c, st_lcmp, st_iinc, st_dupI, st_dupR, st_dup2, st_pop, st_goto, st_if_eq, st_icmp_eq, st_if_ne, st_icmp_ne, st_if_lt, st_icmp_lt, st_if_ge, st_icmp_ge, st_if_gt, st_icmp_gt, st_if_le, st_icmp_le, st_tsw, st_lsw, st_newarray, st_anewarray, st_new, st_invokevirtual, st_invokespecial, oin_ref, st_static, st_max, st_min, st_abs, st_copyi, st_copyl, st_ireturn, st_lreturn, st_areturn, st_return, rn_succ, inl_nil, inl_cons, rno_some, oi_some, ol_some, or_some, lk_cons, ins_nil, ins_cons, rm_nil, rm_int, rm_ref, rm_long, pop_0, pop_1, pop_2, pop_3, pop_4, pop_5, pop_6, la_nil, la_int, la_ref, la_long, cat_nil, cat_int, cat_ref, cat_long, call_succ, cont_some, cont_none, rcv_0, rcv_1, rcv_2, rcv_3, rcv_4, rcv_5, rcv_6, rcv_7, rcv_8, rcv_s, rf_some, ret_0, ret_10, ret_11, ret_ite, ite_0, sw_nil, sw_cons, ln_some, isk_some, al_some, ↓reduceIte, Nat.reduceAdd, Nat.reduceEqDiff, Nat.reduceLeDiff, Nat.reduceLT, Int32.reduceLT, Int32.reduceLE, Int32.reduceToNatClampNeg, Int32.reduceOfNat, Int32.reduceAdd, Int32.reduceSub, Int.reduceEq, Int.reduceNeg, Int.reduceLT, Int32.reduceOfInt, Int64.reduceOfInt, Bool.false_eq_true, true_and, and_true, eq_self, not_true_eq_false, not_false_eq_true, false_imp_iff, true_imp_iff, forall_const, or_true, true_or, ne_eq, Nat.zero_add, Nat.add_zero, Nat.le_refl, reduceCtorEq, Ft151, shF, rrF K, e, h0, h1, hv, hc, el, nI_add]
    exact h
theorem m_lastOf {wd x : Nat} {ac : List acl} (hk : MK I ac) (hwd : wd < 100) (h : Q (some (.int (nI (lastA wd x ac)))) SH I L (RR K)) : pm_wp X (d + 1) 152 0 [(0, .ref 122), (1, .int (nI wd)), (2, .int (nI x))] [] 0 0 SH I L (RR K) Q := by
  obtain ⟨b, hb, hb50, hcl, hwl, hwa⟩ := hk
  have loop : ∀ (r : List acl) (c y : Nat), c + r.length = b + ac.length → b ≤ c → MCl I c r → (∀ x ∈ r, x.1 ≤ 4) → Q (some (.int (nI (lastA wd y r)))) SH I L (RR K) →
      pm_wp X (d + 1) 152 8 [(0, .ref 122), (1, .int (nI wd)), (2, .int (nI x)), (3, .int (nI y)), (4, .int (nI c))] [] 0 0 SH I L (RR K) Q := by
    intro r
    induction r with
    | nil =>
      intro c y hc hbc hm _ h
      obtain rfl : c = b + ac.length := by simpa using hc
      refine pm_gos (n := 40) (stops := [8]) ?_
      simp only [st_iload_n, st_iload, st_lload_n, st_aload_n, st_aload, st_istore_n, st_istore, st_astore_n, st_astore, st_iconst, st_bipush, st_sipush, st_lconst, st_ldc, st_ldc_w, st_ldc2_w, st_getfield, st_putfieldI, st_putfieldR, st_getstatic, st_iaload, st_iastore, st_baload, st_bastore, st_laload, st_lastore, st_aaload, st_aastore, st_arraylength, st_iadd, st_isub, st_imul, st_iand, st_ior, st_ixor, st_ishl, st_ishr, st_idiv, st_irem, st_ineg, st_land, st_lor, st_lshl, st_i2l, st_l2i, st_i2b, st_i2s, st_i2c, st_lcmp, st_iinc, st_dupI, st_dupR, st_dup2, st_pop, st_goto, st_if_eq, st_icmp_eq, st_if_ne, st_icmp_ne, st_if_lt, st_icmp_lt, st_if_ge, st_icmp_ge, st_if_gt, st_icmp_gt, st_if_le, st_icmp_le, st_tsw, st_lsw, st_newarray, st_anewarray, st_new, st_invokevirtual, st_invokespecial, oin_ref, st_static, st_max, st_min, st_abs, st_copyi, st_copyl, st_ireturn, st_lreturn, st_areturn, st_return, rn_succ, inl_nil, inl_cons, rno_some, oi_some, ol_some, or_some, lk_cons, ins_nil, ins_cons, rm_nil, rm_int, rm_ref, rm_long, pop_0, pop_1, pop_2, pop_3, pop_4, pop_5, pop_6, la_nil, la_int, la_ref, la_long, cat_nil, cat_int, cat_ref, cat_long, call_succ, cont_some, cont_none, rcv_0, rcv_1, rcv_2, rcv_3, rcv_4, rcv_5, rcv_6, rcv_7, rcv_8, rcv_s, rf_some, ret_0, ret_10, ret_11, ret_ite, ite_0, sw_nil, sw_cons, ln_some, isk_some, al_some, ↓reduceIte, Nat.reduceAdd, Nat.reduceEqDiff, Nat.reduceLeDiff, Nat.reduceLT, Int32.reduceLT, Int32.reduceLE, Int32.reduceToNatClampNeg, Int32.reduceOfNat, Int32.reduceAdd, Int32.reduceSub, Int.reduceEq, Int.reduceNeg, Int.reduceLT, Int32.reduceOfInt, Int64.reduceOfInt, Bool.false_eq_true, true_and, and_true, eq_self, not_true_eq_false, not_false_eq_true, false_imp_iff, true_imp_iff, forall_const, or_true, true_or, ne_eq, Nat.zero_add, Nat.add_zero, Nat.le_refl, reduceCtorEq, Ft152, shF, rrF K]
      refine m_behind hb ?_
      simp only [st_iload_n, st_iload, st_lload_n, st_aload_n, st_aload, st_istore_n, st_istore, st_astore_n, st_astore, st_iconst, st_bipush, st_sipush, st_lconst, st_ldc, st_ldc_w, st_ldc2_w, st_getfield, st_putfieldI, st_putfieldR, st_getstatic, st_iaload, st_iastore, st_baload, st_bastore, st_laload, st_lastore, st_aaload, st_aastore, st_arraylength, st_iadd, st_isub, st_imul, st_iand, st_ior, st_ixor, st_ishl, st_ishr, st_idiv, st_irem, st_ineg, st_land, st_lor, st_lshl, st_i2l, st_l2i, st_i2b, st_i2s, st_i2c, st_lcmp, st_iinc, st_dupI, st_dupR, st_dup2, st_pop, st_goto, st_if_eq, st_icmp_eq, st_if_ne, st_icmp_ne, st_if_lt, st_icmp_lt, st_if_ge, st_icmp_ge, st_if_gt, st_icmp_gt, st_if_le, st_icmp_le, st_tsw, st_lsw, st_newarray, st_anewarray, st_new, st_invokevirtual, st_invokespecial, oin_ref, st_static, st_max, st_min, st_abs, st_copyi, st_copyl, st_ireturn, st_lreturn, st_areturn, st_return, rn_succ, inl_nil, inl_cons, rno_some, oi_some, ol_some, or_some, lk_cons, ins_nil, ins_cons, rm_nil, rm_int, rm_ref, rm_long, pop_0, pop_1, pop_2, pop_3, pop_4, pop_5, pop_6, la_nil, la_int, la_ref, la_long, cat_nil, cat_int, cat_ref, cat_long, call_succ, cont_some, cont_none, rcv_0, rcv_1, rcv_2, rcv_3, rcv_4, rcv_5, rcv_6, rcv_7, rcv_8, rcv_s, rf_some, ret_0, ret_10, ret_11, ret_ite, ite_0, sw_nil, sw_cons, ln_some, isk_some, al_some, ↓reduceIte, Nat.reduceAdd, Nat.reduceEqDiff, Nat.reduceLeDiff, Nat.reduceLT, Int32.reduceLT, Int32.reduceLE, Int32.reduceToNatClampNeg, Int32.reduceOfNat, Int32.reduceAdd, Int32.reduceSub, Int.reduceEq, Int.reduceNeg, Int.reduceLT, Int32.reduceOfInt, Int64.reduceOfInt, Bool.false_eq_true, true_and, and_true, eq_self, not_true_eq_false, not_false_eq_true, false_imp_iff, true_imp_iff, forall_const, or_true, true_or, ne_eq, Nat.zero_add, Nat.add_zero, Nat.le_refl, reduceCtorEq, Ft152, shF, rrF K, Int32.le_refl]
      exact h
    | cons z r ih =>
      intro c y hc hbc hm hx h
      simp only [List.length_cons] at hc
      obtain ⟨⟨m1, m2, -⟩, m3⟩ := hm
      have hge : ¬ nI (b + ac.length) ≤ nI c := nI_ge (by omega) (by omega)
      have hv : vp_in (nI c) 60 := vi (by omega) (by omega)
      have hcc : (nI c).toNatClampNeg = c := nI_clamp (by omega)
      have hz4 := hx z List.mem_cons_self
      have hw : (nI z.1 = nI wd) = (z.1 = wd) := propext (nI_eq (by omega) (by omega))
      refine pm_gos (n := 40) (stops := [8]) ?_
      simp only [st_iload_n, st_iload, st_lload_n, st_aload_n, st_aload, st_istore_n, st_istore, st_astore_n, st_astore, st_iconst, st_bipush, st_sipush, st_lconst, st_ldc, st_ldc_w, st_ldc2_w, st_getfield, st_putfieldI, st_putfieldR, st_getstatic, st_iaload, st_iastore, st_baload, st_bastore, st_laload, st_lastore, st_aaload, st_aastore, st_arraylength, st_iadd, st_isub, st_imul, st_iand, st_ior, st_ixor, st_ishl, st_ishr, st_idiv, st_irem, st_ineg, st_land, st_lor, st_lshl, st_i2l, st_l2i, st_i2b, st_i2s, st_i2c, st_lcmp, st_iinc, st_dupI, st_dupR, st_dup2, st_pop, st_goto, st_if_eq, st_icmp_eq, st_if_ne, st_icmp_ne, st_if_lt, st_icmp_lt, st_if_ge, st_icmp_ge, st_if_gt, st_icmp_gt, st_if_le, st_icmp_le, st_tsw, st_lsw, st_newarray, st_anewarray, st_new, st_invokevirtual, st_invokespecial, oin_ref, st_static, st_max, st_min, st_abs, st_copyi, st_copyl, st_ireturn, st_lreturn, st_areturn, st_return, rn_succ, inl_nil, inl_cons, rno_some, oi_some, ol_some, or_some, lk_cons, ins_nil, ins_cons, rm_nil, rm_int, rm_ref, rm_long, pop_0, pop_1, pop_2, pop_3, pop_4, pop_5, pop_6, la_nil, la_int, la_ref, la_long, cat_nil, cat_int, cat_ref, cat_long, call_succ, cont_some, cont_none, rcv_0, rcv_1, rcv_2, rcv_3, rcv_4, rcv_5, rcv_6, rcv_7, rcv_8, rcv_s, rf_some, ret_0, ret_10, ret_11, ret_ite, ite_0, sw_nil, sw_cons, ln_some, isk_some, al_some, ↓reduceIte, Nat.reduceAdd, Nat.reduceEqDiff, Nat.reduceLeDiff, Nat.reduceLT, Int32.reduceLT, Int32.reduceLE, Int32.reduceToNatClampNeg, Int32.reduceOfNat, Int32.reduceAdd, Int32.reduceSub, Int.reduceEq, Int.reduceNeg, Int.reduceLT, Int32.reduceOfInt, Int64.reduceOfInt, Bool.false_eq_true, true_and, and_true, eq_self, not_true_eq_false, not_false_eq_true, false_imp_iff, true_imp_iff, forall_const, or_true, true_or, ne_eq, Nat.zero_add, Nat.add_zero, Nat.le_refl, reduceCtorEq, Ft152, shF, rrF K]
      refine m_behind hb ?_
      simp only [st_iload_n, st_iload, st_lload_n, st_aload_n, st_aload, st_istore_n, st_istore, st_astore_n, st_astore, st_iconst, st_bipush, st_sipush, st_lconst, st_ldc, st_ldc_w, st_ldc2_w, st_getfield, st_putfieldI, st_putfieldR, st_getstatic, st_iaload, st_iastore, st_baload, st_bastore, st_laload, st_lastore, st_aaload, st_aastore, st_arraylength, st_iadd, st_isub, st_imul, st_iand, st_ior, st_ixor, st_ishl, st_ishr, st_idiv, st_irem, st_ineg, st_land, st_lor, st_lshl, st_i2l, st_l2i, st_i2b, st_i2s, st_i2c, st_lcmp, st_iinc, st_dupI, st_dupR, st_dup2, st_pop, st_goto, st_if_eq, st_icmp_eq, st_if_ne, st_icmp_ne, st_if_lt, st_icmp_lt, st_if_ge, st_icmp_ge, st_if_gt, st_icmp_gt, st_if_le, st_icmp_le, st_tsw, st_lsw, st_newarray, st_anewarray, st_new, st_invokevirtual, st_invokespecial, oin_ref, st_static, st_max, st_min, st_abs, st_copyi, st_copyl, st_ireturn, st_lreturn, st_areturn, st_return, rn_succ, inl_nil, inl_cons, rno_some, oi_some, ol_some, or_some, lk_cons, ins_nil, ins_cons, rm_nil, rm_int, rm_ref, rm_long, pop_0, pop_1, pop_2, pop_3, pop_4, pop_5, pop_6, la_nil, la_int, la_ref, la_long, cat_nil, cat_int, cat_ref, cat_long, call_succ, cont_some, cont_none, rcv_0, rcv_1, rcv_2, rcv_3, rcv_4, rcv_5, rcv_6, rcv_7, rcv_8, rcv_s, rf_some, ret_0, ret_10, ret_11, ret_ite, ite_0, sw_nil, sw_cons, ln_some, isk_some, al_some, ↓reduceIte, Nat.reduceAdd, Nat.reduceEqDiff, Nat.reduceLeDiff, Nat.reduceLT, Int32.reduceLT, Int32.reduceLE, Int32.reduceToNatClampNeg, Int32.reduceOfNat, Int32.reduceAdd, Int32.reduceSub, Int.reduceEq, Int.reduceNeg, Int.reduceLT, Int32.reduceOfInt, Int64.reduceOfInt, Bool.false_eq_true, true_and, and_true, eq_self, not_true_eq_false, not_false_eq_true, false_imp_iff, true_imp_iff, forall_const, or_true, true_or, ne_eq, Nat.zero_add, Nat.add_zero, Nat.le_refl, reduceCtorEq, Ft152, shF, rrF K, hge, hv, hcc, m1, m2, hw, ← nI_succ]
      unfold lastA at h
      refine ⟨fun q => ?_, fun q => ?_⟩
      · rw [if_neg q] at h
        exact ih (c + 1) y (by omega) (by omega) m3 (fun x hx' => hx x (List.mem_cons_of_mem _ hx')) h
      · rw [if_pos (Decidable.not_not.mp q)] at h
        exact ih (c + 1) _ (by omega) (by omega) m3 (fun x hx' => hx x (List.mem_cons_of_mem _ hx')) h
  refine pm_run_wp (n := 40) (stops := [8]) ?_
  simp only [st_iload_n, st_iload, st_lload_n, st_aload_n, st_aload, st_istore_n, st_istore, st_astore_n, st_astore, st_iconst, st_bipush, st_sipush, st_lconst, st_ldc, st_ldc_w, st_ldc2_w, st_getfield, st_putfieldI, st_putfieldR, st_getstatic, st_iaload, st_iastore, st_baload, st_bastore, st_laload, st_lastore, st_aaload, st_aastore, st_arraylength, st_iadd, st_isub, st_imul, st_iand, st_ior, st_ixor, st_ishl, st_ishr, st_idiv, st_irem, st_ineg, st_land, st_lor, st_lshl, st_i2l, st_l2i, st_i2b, st_i2s, st_i2c, st_lcmp, st_iinc, st_dupI, st_dupR, st_dup2, st_pop, st_goto, st_if_eq, st_icmp_eq, st_if_ne, st_icmp_ne, st_if_lt, st_icmp_lt, st_if_ge, st_icmp_ge, st_if_gt, st_icmp_gt, st_if_le, st_icmp_le, st_tsw, st_lsw, st_newarray, st_anewarray, st_new, st_invokevirtual, st_invokespecial, oin_ref, st_static, st_max, st_min, st_abs, st_copyi, st_copyl, st_ireturn, st_lreturn, st_areturn, st_return, rn_succ, inl_nil, inl_cons, rno_some, oi_some, ol_some, or_some, lk_cons, ins_nil, ins_cons, rm_nil, rm_int, rm_ref, rm_long, pop_0, pop_1, pop_2, pop_3, pop_4, pop_5, pop_6, la_nil, la_int, la_ref, la_long, cat_nil, cat_int, cat_ref, cat_long, call_succ, cont_some, cont_none, rcv_0, rcv_1, rcv_2, rcv_3, rcv_4, rcv_5, rcv_6, rcv_7, rcv_8, rcv_s, rf_some, ret_0, ret_10, ret_11, ret_ite, ite_0, sw_nil, sw_cons, ln_some, isk_some, al_some, ↓reduceIte, Nat.reduceAdd, Nat.reduceEqDiff, Nat.reduceLeDiff, Nat.reduceLT, Int32.reduceLT, Int32.reduceLE, Int32.reduceToNatClampNeg, Int32.reduceOfNat, Int32.reduceAdd, Int32.reduceSub, Int.reduceEq, Int.reduceNeg, Int.reduceLT, Int32.reduceOfInt, Int64.reduceOfInt, Bool.false_eq_true, true_and, and_true, eq_self, not_true_eq_false, not_false_eq_true, false_imp_iff, true_imp_iff, forall_const, or_true, true_or, ne_eq, Nat.zero_add, Nat.add_zero, Nat.le_refl, reduceCtorEq, Ft152, shF, rrF K]
  refine m_begin hb ?_
  simp only [st_iload_n, st_iload, st_lload_n, st_aload_n, st_aload, st_istore_n, st_istore, st_astore_n, st_astore, st_iconst, st_bipush, st_sipush, st_lconst, st_ldc, st_ldc_w, st_ldc2_w, st_getfield, st_putfieldI, st_putfieldR, st_getstatic, st_iaload, st_iastore, st_baload, st_bastore, st_laload, st_lastore, st_aaload, st_aastore, st_arraylength, st_iadd, st_isub, st_imul, st_iand, st_ior, st_ixor, st_ishl, st_ishr, st_idiv, st_irem, st_ineg, st_land, st_lor, st_lshl, st_i2l, st_l2i, st_i2b, st_i2s, st_i2c, st_lcmp, st_iinc, st_dupI, st_dupR, st_dup2, st_pop, st_goto, st_if_eq, st_icmp_eq, st_if_ne, st_icmp_ne, st_if_lt, st_icmp_lt, st_if_ge, st_icmp_ge, st_if_gt, st_icmp_gt, st_if_le, st_icmp_le, st_tsw, st_lsw, st_newarray, st_anewarray, st_new, st_invokevirtual, st_invokespecial, oin_ref, st_static, st_max, st_min, st_abs, st_copyi, st_copyl, st_ireturn, st_lreturn, st_areturn, st_return, rn_succ, inl_nil, inl_cons, rno_some, oi_some, ol_some, or_some, lk_cons, ins_nil, ins_cons, rm_nil, rm_int, rm_ref, rm_long, pop_0, pop_1, pop_2, pop_3, pop_4, pop_5, pop_6, la_nil, la_int, la_ref, la_long, cat_nil, cat_int, cat_ref, cat_long, call_succ, cont_some, cont_none, rcv_0, rcv_1, rcv_2, rcv_3, rcv_4, rcv_5, rcv_6, rcv_7, rcv_8, rcv_s, rf_some, ret_0, ret_10, ret_11, ret_ite, ite_0, sw_nil, sw_cons, ln_some, isk_some, al_some, ↓reduceIte, Nat.reduceAdd, Nat.reduceEqDiff, Nat.reduceLeDiff, Nat.reduceLT, Int32.reduceLT, Int32.reduceLE, Int32.reduceToNatClampNeg, Int32.reduceOfNat, Int32.reduceAdd, Int32.reduceSub, Int.reduceEq, Int.reduceNeg, Int.reduceLT, Int32.reduceOfInt, Int64.reduceOfInt, Bool.false_eq_true, true_and, and_true, eq_self, not_true_eq_false, not_false_eq_true, false_imp_iff, true_imp_iff, forall_const, or_true, true_or, ne_eq, Nat.zero_add, Nat.add_zero, Nat.le_refl, reduceCtorEq, Ft152, shF, rrF K]
  exact loop ac b x rfl (Nat.le_refl _) hcl (fun x hx => (hwa x hx).1) h
theorem m_wake {ac : List acl} (hk : MK I ac) (h : Q (some (.int (kOf ac).2.1)) SH I L (RR K)) : pm_wp X (d + 2) 153 0 [(0, .ref 122)] [] 0 0 SH I L (RR K) Q := by
  refine pm_run_wp (n := 40) (stops := []) ?_
  simp only [st_iload_n, st_iload, st_lload_n, st_aload_n, st_aload, st_istore_n, st_istore, st_astore_n, st_astore, st_iconst, st_bipush, st_sipush, st_lconst, st_ldc, st_ldc_w, st_ldc2_w, st_getfield, st_putfieldI, st_putfieldR, st_getstatic, st_iaload, st_iastore, st_baload, st_bastore, st_laload, st_lastore, st_aaload, st_aastore, st_arraylength, st_iadd, st_isub, st_imul, st_iand, st_ior, st_ixor, st_ishl, st_ishr, st_idiv, st_irem, st_ineg, st_land, st_lor, st_lshl, st_i2l, st_l2i, st_i2b, st_i2s, st_i2c, st_lcmp, st_iinc, st_dupI, st_dupR, st_dup2, st_pop, st_goto, st_if_eq, st_icmp_eq, st_if_ne, st_icmp_ne, st_if_lt, st_icmp_lt, st_if_ge, st_icmp_ge, st_if_gt, st_icmp_gt, st_if_le, st_icmp_le, st_tsw, st_lsw, st_newarray, st_anewarray, st_new, st_invokevirtual, st_invokespecial, oin_ref, st_static, st_max, st_min, st_abs, st_copyi, st_copyl, st_ireturn, st_lreturn, st_areturn, st_return, rn_succ, inl_nil, inl_cons, rno_some, oi_some, ol_some, or_some, lk_cons, ins_nil, ins_cons, rm_nil, rm_int, rm_ref, rm_long, pop_0, pop_1, pop_2, pop_3, pop_4, pop_5, pop_6, la_nil, la_int, la_ref, la_long, cat_nil, cat_int, cat_ref, cat_long, call_succ, cont_some, cont_none, rcv_0, rcv_1, rcv_2, rcv_3, rcv_4, rcv_5, rcv_6, rcv_7, rcv_8, rcv_s, rf_some, ret_0, ret_10, ret_11, ret_ite, ite_0, sw_nil, sw_cons, ln_some, isk_some, al_some, ↓reduceIte, Nat.reduceAdd, Nat.reduceEqDiff, Nat.reduceLeDiff, Nat.reduceLT, Int32.reduceLT, Int32.reduceLE, Int32.reduceToNatClampNeg, Int32.reduceOfNat, Int32.reduceAdd, Int32.reduceSub, Int.reduceEq, Int.reduceNeg, Int.reduceLT, Int32.reduceOfInt, Int64.reduceOfInt, Bool.false_eq_true, true_and, and_true, eq_self, not_true_eq_false, not_false_eq_true, false_imp_iff, true_imp_iff, forall_const, or_true, true_or, ne_eq, Nat.zero_add, Nat.add_zero, Nat.le_refl, reduceCtorEq, Ft153, shF, rrF K]
  refine m_lastOf (wd := 3) (x := 60) hk (by omega) ?_
  simp only [st_iload_n, st_iload, st_lload_n, st_aload_n, st_aload, st_istore_n, st_istore, st_astore_n, st_astore, st_iconst, st_bipush, st_sipush, st_lconst, st_ldc, st_ldc_w, st_ldc2_w, st_getfield, st_putfieldI, st_putfieldR, st_getstatic, st_iaload, st_iastore, st_baload, st_bastore, st_laload, st_lastore, st_aaload, st_aastore, st_arraylength, st_iadd, st_isub, st_imul, st_iand, st_ior, st_ixor, st_ishl, st_ishr, st_idiv, st_irem, st_ineg, st_land, st_lor, st_lshl, st_i2l, st_l2i, st_i2b, st_i2s, st_i2c, st_lcmp, st_iinc, st_dupI, st_dupR, st_dup2, st_pop, st_goto, st_if_eq, st_icmp_eq, st_if_ne, st_icmp_ne, st_if_lt, st_icmp_lt, st_if_ge, st_icmp_ge, st_if_gt, st_icmp_gt, st_if_le, st_icmp_le, st_tsw, st_lsw, st_newarray, st_anewarray, st_new, st_invokevirtual, st_invokespecial, oin_ref, st_static, st_max, st_min, st_abs, st_copyi, st_copyl, st_ireturn, st_lreturn, st_areturn, st_return, rn_succ, inl_nil, inl_cons, rno_some, oi_some, ol_some, or_some, lk_cons, ins_nil, ins_cons, rm_nil, rm_int, rm_ref, rm_long, pop_0, pop_1, pop_2, pop_3, pop_4, pop_5, pop_6, la_nil, la_int, la_ref, la_long, cat_nil, cat_int, cat_ref, cat_long, call_succ, cont_some, cont_none, rcv_0, rcv_1, rcv_2, rcv_3, rcv_4, rcv_5, rcv_6, rcv_7, rcv_8, rcv_s, rf_some, ret_0, ret_10, ret_11, ret_ite, ite_0, sw_nil, sw_cons, ln_some, isk_some, al_some, ↓reduceIte, Nat.reduceAdd, Nat.reduceEqDiff, Nat.reduceLeDiff, Nat.reduceLT, Int32.reduceLT, Int32.reduceLE, Int32.reduceToNatClampNeg, Int32.reduceOfNat, Int32.reduceAdd, Int32.reduceSub, Int.reduceEq, Int.reduceNeg, Int.reduceLT, Int32.reduceOfInt, Int64.reduceOfInt, Bool.false_eq_true, true_and, and_true, eq_self, not_true_eq_false, not_false_eq_true, false_imp_iff, true_imp_iff, forall_const, or_true, true_or, ne_eq, Nat.zero_add, Nat.add_zero, Nat.le_refl, reduceCtorEq, Ft153]
  exact h
theorem m_pay {ac : List acl} (hk : MK I ac) (h : Q (some (.int (kOf ac).2.2.1)) SH I L (RR K)) : pm_wp X (d + 2) 154 0 [(0, .ref 122)] [] 0 0 SH I L (RR K) Q := by
  have e : (kOf ac).2.2.1 = mx 1 (nI (lastA 4 5 ac)) := rfl
  rw [e] at h
  unfold mx at h
  refine pm_run_wp (n := 40) (stops := []) ?_
  simp only [st_iload_n, st_iload, st_lload_n, st_aload_n, st_aload, st_istore_n, st_istore, st_astore_n, st_astore, st_iconst, st_bipush, st_sipush, st_lconst, st_ldc, st_ldc_w, st_ldc2_w, st_getfield, st_putfieldI, st_putfieldR, st_getstatic, st_iaload, st_iastore, st_baload, st_bastore, st_laload, st_lastore, st_aaload, st_aastore, st_arraylength, st_iadd, st_isub, st_imul, st_iand, st_ior, st_ixor, st_ishl, st_ishr, st_idiv, st_irem, st_ineg, st_land, st_lor, st_lshl, st_i2l, st_l2i, st_i2b, st_i2s, st_i2c, st_lcmp, st_iinc, st_dupI, st_dupR, st_dup2, st_pop, st_goto, st_if_eq, st_icmp_eq, st_if_ne, st_icmp_ne, st_if_lt, st_icmp_lt, st_if_ge, st_icmp_ge, st_if_gt, st_icmp_gt, st_if_le, st_icmp_le, st_tsw, st_lsw, st_newarray, st_anewarray, st_new, st_invokevirtual, st_invokespecial, oin_ref, st_static, st_max, st_min, st_abs, st_copyi, st_copyl, st_ireturn, st_lreturn, st_areturn, st_return, rn_succ, inl_nil, inl_cons, rno_some, oi_some, ol_some, or_some, lk_cons, ins_nil, ins_cons, rm_nil, rm_int, rm_ref, rm_long, pop_0, pop_1, pop_2, pop_3, pop_4, pop_5, pop_6, la_nil, la_int, la_ref, la_long, cat_nil, cat_int, cat_ref, cat_long, call_succ, cont_some, cont_none, rcv_0, rcv_1, rcv_2, rcv_3, rcv_4, rcv_5, rcv_6, rcv_7, rcv_8, rcv_s, rf_some, ret_0, ret_10, ret_11, ret_ite, ite_0, sw_nil, sw_cons, ln_some, isk_some, al_some, ↓reduceIte, Nat.reduceAdd, Nat.reduceEqDiff, Nat.reduceLeDiff, Nat.reduceLT, Int32.reduceLT, Int32.reduceLE, Int32.reduceToNatClampNeg, Int32.reduceOfNat, Int32.reduceAdd, Int32.reduceSub, Int.reduceEq, Int.reduceNeg, Int.reduceLT, Int32.reduceOfInt, Int64.reduceOfInt, Bool.false_eq_true, true_and, and_true, eq_self, not_true_eq_false, not_false_eq_true, false_imp_iff, true_imp_iff, forall_const, or_true, true_or, ne_eq, Nat.zero_add, Nat.add_zero, Nat.le_refl, reduceCtorEq, Ft154, shF, rrF K]
  refine m_lastOf (wd := 4) (x := 5) hk (by omega) ?_
  simp only [st_iload_n, st_iload, st_lload_n, st_aload_n, st_aload, st_istore_n, st_istore, st_astore_n, st_astore, st_iconst, st_bipush, st_sipush, st_lconst, st_ldc, st_ldc_w, st_ldc2_w, st_getfield, st_putfieldI, st_putfieldR, st_getstatic, st_iaload, st_iastore, st_baload, st_bastore, st_laload, st_lastore, st_aaload, st_aastore, st_arraylength, st_iadd, st_isub, st_imul, st_iand, st_ior, st_ixor, st_ishl, st_ishr, st_idiv, st_irem, st_ineg, st_land, st_lor, st_lshl, st_i2l, st_l2i, st_i2b, st_i2s, st_i2c, st_lcmp, st_iinc, st_dupI, st_dupR, st_dup2, st_pop, st_goto, st_if_eq, st_icmp_eq, st_if_ne, st_icmp_ne, st_if_lt, st_icmp_lt, st_if_ge, st_icmp_ge, st_if_gt, st_icmp_gt, st_if_le, st_icmp_le, st_tsw, st_lsw, st_newarray, st_anewarray, st_new, st_invokevirtual, st_invokespecial, oin_ref, st_static, st_max, st_min, st_abs, st_copyi, st_copyl, st_ireturn, st_lreturn, st_areturn, st_return, rn_succ, inl_nil, inl_cons, rno_some, oi_some, ol_some, or_some, lk_cons, ins_nil, ins_cons, rm_nil, rm_int, rm_ref, rm_long, pop_0, pop_1, pop_2, pop_3, pop_4, pop_5, pop_6, la_nil, la_int, la_ref, la_long, cat_nil, cat_int, cat_ref, cat_long, call_succ, cont_some, cont_none, rcv_0, rcv_1, rcv_2, rcv_3, rcv_4, rcv_5, rcv_6, rcv_7, rcv_8, rcv_s, rf_some, ret_0, ret_10, ret_11, ret_ite, ite_0, sw_nil, sw_cons, ln_some, isk_some, al_some, ↓reduceIte, Nat.reduceAdd, Nat.reduceEqDiff, Nat.reduceLeDiff, Nat.reduceLT, Int32.reduceLT, Int32.reduceLE, Int32.reduceToNatClampNeg, Int32.reduceOfNat, Int32.reduceAdd, Int32.reduceSub, Int.reduceEq, Int.reduceNeg, Int.reduceLT, Int32.reduceOfInt, Int64.reduceOfInt, Bool.false_eq_true, true_and, and_true, eq_self, not_true_eq_false, not_false_eq_true, false_imp_iff, true_imp_iff, forall_const, or_true, true_or, ne_eq, Nat.zero_add, Nat.add_zero, Nat.le_refl, reduceCtorEq, Ft154]
  refine ⟨fun q => ?_, fun q => ?_⟩
  · by_cases h1 : 1 < nI (lastA 4 5 ac)
    · rw [if_pos h1] at h; exact h
    · rw [if_neg h1] at h
      rw [Int32.le_antisymm (Int32.not_lt.mp h1) q]
      exact h
  · rw [if_neg (fun z => q (Int32.le_of_lt z))] at h
    exact h
theorem m_step {ac : List acl} (hk : MK I ac) (h : Q (some (.int (kOf ac).1)) SH I L (RR K)) : pm_wp X (d + 1) 152 0 [(0, .ref 122), (1, .int 2), (2, .int 2)] [] 0 0 SH I L (RR K) Q :=
  m_lastOf (wd := 2) (x := 2) hk (by omega) h
theorem m_factOf {f i : Nat} (hf : f < 6) (hi : i < 6) (h : Q (some (.int (letC (mw I) (nI (ltr f)) i))) SH I L (RR K)) : pm_wp X d 155 0 [(0, .ref 122), (1, .int (nI f)), (2, .int (nI i))] [] 0 0 SH I L (RR K) Q := by
  have hv : vp_in (nI i) 6 := vi (by omega) (by omega)
  have hc : (nI i).toNatClampNeg = i := nI_clamp (by omega)
  have h10 : ¬ (10 : Int32) = 0 := by decide
  have e1 : ((0 : Int32) = 1) = False := by decide
  refine pm_run_wp (n := 40) (stops := []) ?_
  obtain rfl | rfl | rfl | rfl | rfl | rfl : f = 0 ∨ f = 1 ∨ f = 2 ∨ f = 3 ∨ f = 4 ∨ f = 5 := by omega
  all_goals
    simp only [nlt]
    have z1 : ((1 : Int32) = 0) = False ∧ ((2 : Int32) = 0) = False ∧ ((2 : Int32) = 1) = False ∧ ((3 : Int32) = 0) = False ∧ ((3 : Int32) = 1) = False ∧ ((3 : Int32) = 2) = False ∧ ((4 : Int32) = 0) = False ∧ ((4 : Int32) = 1) = False ∧ ((4 : Int32) = 2) = False ∧ ((4 : Int32) = 3) = False ∧ ((5 : Int32) = 0) = False ∧ ((5 : Int32) = 1) = False ∧ ((5 : Int32) = 2) = False ∧ ((5 : Int32) = 3) = False ∧ ((5 : Int32) = 4) = False := by decide
    simp only [st_iload_n, st_iload, st_lload_n, st_aload_n, st_aload, st_istore_n, st_istore, st_astore_n, st_astore, st_iconst, st_bipush, st_sipush, st_lconst, st_ldc, st_ldc_w, st_ldc2_w, st_getfield, st_putfieldI, st_putfieldR, st_getstatic, st_iaload, st_iastore, st_baload, st_bastore, st_laload, st_lastore, st_aaload, st_aastore, st_arraylength, st_iadd, st_isub, st_imul, st_iand, st_ior, st_ixor, st_ishl, st_ishr, st_idiv, st_irem, st_ineg, st_land, st_lor, st_lshl, st_i2l, st_l2i, st_i2b, st_i2s, st_i2c, st_lcmp, st_iinc, st_dupI, st_dupR, st_dup2, st_pop, st_goto, st_if_eq, st_icmp_eq, st_if_ne, st_icmp_ne, st_if_lt, st_icmp_lt, st_if_ge, st_icmp_ge, st_if_gt, st_icmp_gt, st_if_le, st_icmp_le, st_tsw, st_lsw, st_newarray, st_anewarray, st_new, st_invokevirtual, st_invokespecial, oin_ref, st_static, st_max, st_min, st_abs, st_copyi, st_copyl, st_ireturn, st_lreturn, st_areturn, st_return, rn_succ, inl_nil, inl_cons, rno_some, oi_some, ol_some, or_some, lk_cons, ins_nil, ins_cons, rm_nil, rm_int, rm_ref, rm_long, pop_0, pop_1, pop_2, pop_3, pop_4, pop_5, pop_6, la_nil, la_int, la_ref, la_long, cat_nil, cat_int, cat_ref, cat_long, call_succ, cont_some, cont_none, rcv_0, rcv_1, rcv_2, rcv_3, rcv_4, rcv_5, rcv_6, rcv_7, rcv_8, rcv_s, rf_some, ret_0, ret_10, ret_11, ret_ite, ite_0, sw_nil, sw_cons, ln_some, isk_some, al_some, ↓reduceIte, Nat.reduceAdd, Nat.reduceEqDiff, Nat.reduceLeDiff, Nat.reduceLT, Int32.reduceLT, Int32.reduceLE, Int32.reduceToNatClampNeg, Int32.reduceOfNat, Int32.reduceAdd, Int32.reduceSub, Int.reduceEq, Int.reduceNeg, Int.reduceLT, Int32.reduceOfInt, Int64.reduceOfInt, Bool.false_eq_true, true_and, and_true, eq_self, not_true_eq_false, not_false_eq_true, false_imp_iff, true_imp_iff, forall_const, or_true, true_or, ne_eq, Nat.zero_add, Nat.add_zero, Nat.le_refl, reduceCtorEq, Ft155, shF, rrF K, hv, hc, h10, z1]
    exact h
theorem dpM_lt {d0 e : Nat} {m : mk} (hd : d0 ≤ 30) (h : dpM d0 m = some e) : e ≤ 30 := by
  unfold dpM at h
  split at h
  · split at h
    · cases h; exact hd
    · cases h
  · split at h
    · split at h
      · cases h; omega
      · cases h
    · split at h
      · cases h; omega
      · cases h
theorem m_holds {c i : Nat} {ms : List mk} {fr : Nat} (hc60 : c < 60) (hi : i < 6) (e1 : I 133 c = nI fr) (e2 : I 134 c = nI (fr + ms.length)) (e3 : fr + ms.length ≤ 600) (e4 : ∀ j m, ms[j]? = some m → EN m (I 135 (fr + j))) (hd : dpL 0 ms = some 1)
    (h : ∀ I' : pm_I, (∀ a, a ≠ 138 → I' a = I a) → Q (some (.int (bI (topB (evL (mw I) i [] ms))))) SH I' L (RR K)) : pm_wp X (d + 1) 156 0 [(0, .ref 122), (1, .int (nI c)), (2, .int (nI i))] [] 0 0 SH I L (RR K) Q := by
  have hvc : vp_in (nI c) 60 := vi (by omega) (by omega)
  have hcc : (nI c).toNatClampNeg = c := nI_clamp (by omega)
  have loop : ∀ (r : List mk) (k : Nat) (s : List Bool) (I1 : pm_I) (o : pm_l), k + r.length = fr + ms.length → (o = [] ∨ (∃ x, o = [(5, .int x)]) ∨ ∃ x y z, o = [(5, .int x), (6, .int y), (7, .int z)]) → (∀ j m, r[j]? = some m → EN m (I 135 (k + j))) → (∀ a, a ≠ 138 → I1 a = I a) → PLs I1 s → s.length ≤ 30 → dpL s.length r = some 1 →
      (∀ I' : pm_I, (∀ a, a ≠ 138 → I' a = I a) → Q (some (.int (bI (topB (evL (mw I) i s r))))) SH I' L (RR K)) →
      pm_wp X (d + 1) 156 10 ([(0, .ref 122), (1, .int (nI c)), (2, .int (nI i)), (3, .int (nI s.length)), (4, .int (nI k))] ++ o) [] 0 0 SH I1 L (RR K) Q := by
    intro r
    induction r with
    | nil =>
      intro k s I1 o hk ho hm g1 hP hs hd h
      obtain rfl : k = fr + ms.length := by simpa using hk
      have hs1 : s.length = 1 := by simpa [dpL] using hd
      obtain ⟨b, rfl⟩ : ∃ b, s = [b] := by
        match s, hs1 with
        | [b], _ => exact ⟨b, rfl⟩
      have hb : I1 138 0 = bI b := hP 0 b rfl
      have e2' : I1 134 c = nI (fr + ms.length) := by rw [g1 134 (by omega)]; exact e2
      have v0 : vp_in 0 100 := vi (c := 0) (by omega) (by omega)
      rcases ho with rfl | ⟨x0, rfl⟩ | ⟨x0, y0, z0, rfl⟩
      all_goals
        simp only [List.append_nil, List.cons_append, List.nil_append]
        refine pm_gos (n := 40) (stops := [10]) ?_
        simp only [st_iload_n, st_iload, st_lload_n, st_aload_n, st_aload, st_istore_n, st_istore, st_astore_n, st_astore, st_iconst, st_bipush, st_sipush, st_lconst, st_ldc, st_ldc_w, st_ldc2_w, st_getfield, st_putfieldI, st_putfieldR, st_getstatic, st_iaload, st_iastore, st_baload, st_bastore, st_laload, st_lastore, st_aaload, st_aastore, st_arraylength, st_iadd, st_isub, st_imul, st_iand, st_ior, st_ixor, st_ishl, st_ishr, st_idiv, st_irem, st_ineg, st_land, st_lor, st_lshl, st_i2l, st_l2i, st_i2b, st_i2s, st_i2c, st_lcmp, st_iinc, st_dupI, st_dupR, st_dup2, st_pop, st_goto, st_if_eq, st_icmp_eq, st_if_ne, st_icmp_ne, st_if_lt, st_icmp_lt, st_if_ge, st_icmp_ge, st_if_gt, st_icmp_gt, st_if_le, st_icmp_le, st_tsw, st_lsw, st_newarray, st_anewarray, st_new, st_invokevirtual, st_invokespecial, oin_ref, st_static, st_max, st_min, st_abs, st_copyi, st_copyl, st_ireturn, st_lreturn, st_areturn, st_return, rn_succ, inl_nil, inl_cons, rno_some, oi_some, ol_some, or_some, lk_cons, ins_nil, ins_cons, rm_nil, rm_int, rm_ref, rm_long, pop_0, pop_1, pop_2, pop_3, pop_4, pop_5, pop_6, la_nil, la_int, la_ref, la_long, cat_nil, cat_int, cat_ref, cat_long, call_succ, cont_some, cont_none, rcv_0, rcv_1, rcv_2, rcv_3, rcv_4, rcv_5, rcv_6, rcv_7, rcv_8, rcv_s, rf_some, ret_0, ret_10, ret_11, ret_ite, ite_0, sw_nil, sw_cons, ln_some, isk_some, al_some, ↓reduceIte, Nat.reduceAdd, Nat.reduceEqDiff, Nat.reduceLeDiff, Nat.reduceLT, Int32.reduceLT, Int32.reduceLE, Int32.reduceToNatClampNeg, Int32.reduceOfNat, Int32.reduceAdd, Int32.reduceSub, Int.reduceEq, Int.reduceNeg, Int.reduceLT, Int32.reduceOfInt, Int64.reduceOfInt, Bool.false_eq_true, true_and, and_true, eq_self, not_true_eq_false, not_false_eq_true, false_imp_iff, true_imp_iff, forall_const, or_true, true_or, ne_eq, Nat.zero_add, Nat.add_zero, Nat.le_refl, reduceCtorEq, Ft156, shF, rrF K, hvc, hcc, e2', Int32.le_refl, v0, hb, ret_bI]
        exact h I1 g1
    | cons m0 r ih =>
      intro k s I1 o hk ho hm g1 hP hs hd h
      simp only [List.length_cons] at hk
      have hge : ¬ nI (fr + ms.length) ≤ nI k := nI_ge (by omega) (by omega)
      have hvk : vp_in (nI k) 600 := vi (by omega) (by omega)
      have hck : (nI k).toNatClampNeg = k := nI_clamp (by omega)
      have e2' : I1 134 c = nI (fr + ms.length) := by rw [g1 134 (by omega)]; exact e2
      have hm0 := hm 0 m0 rfl
      rw [Nat.add_zero, ← g1 135 (by omega)] at hm0
      have hm' : ∀ j m, r[j]? = some m → EN m (I 135 (k + 1 + j)) := fun j m hj => by
        have := hm (j + 1) m hj
        rwa [show k + (j + 1) = k + 1 + j by omega] at this
      simp only [dpL] at hd
      cases hdm : dpM s.length m0 with
      | none => rw [hdm] at hd; cases hd
      | some e =>
        rw [hdm] at hd
        simp only [Option.bind_some] at hd
        have hle := dpM_len (w := mw I) (i := i) hdm
        have he30 := dpM_lt hs hdm
        have nx : ∀ (I2 : pm_I) (o : pm_l) (l2 : Nat), l2 = e → (o = [] ∨ (∃ x, o = [(5, .int x)]) ∨ ∃ x y z, o = [(5, .int x), (6, .int y), (7, .int z)]) → (∀ a, a ≠ 138 → I2 a = I1 a) → PLs I2 (evM (mw I) i s m0) →
            pm_wp X (d + 1) 156 10 ([(0, .ref 122), (1, .int (nI c)), (2, .int (nI i)), (3, .int (nI l2)), (4, .int (nI (k + 1)))] ++ o) [] 0 0 SH I2 L (RR K) Q := by
          intro I2 o l2 hl2 ho2 g2 hP2
          subst hl2
          rw [← hle]
          exact ih (k + 1) (evM (mw I) i s m0) I2 o (by omega) ho2 hm' (fun a ha => by rw [g2 a ha]; exact g1 a ha) hP2 (by rw [hle]; exact he30) (by rw [hle]; exact hd) (fun I' hI => h I' hI)
        have fall : ∀ {P : Prop}, False → P := fun z => z.elim
        unfold dpM at hdm
        rcases hm0 with ⟨q1, q2⟩ | ⟨q1, q2⟩ | ⟨q1, q2⟩ | ⟨f, t, x, hf, ht, hx, rfl, q2⟩
        · rw [if_pos q1] at hdm
          have hev : evM (mw I) i s m0 = evN s := by unfold evM; rw [if_pos q1]
          rw [hev] at nx
          obtain ⟨b1, s', rfl⟩ : ∃ b1 s', s = b1 :: s' := by
            cases s with
            | nil => simp at hdm
            | cons b1 s' => exact ⟨b1, s', rfl⟩
          have he : e = (b1 :: s').length := by
            rw [if_pos (by simp)] at hdm
            exact (Option.some.inj hdm).symm
          have hls : nI (b1 :: s').length - 1 = nI s'.length := nI_pred s'.length
          have hvs : vp_in (nI s'.length) 100 := vi (by simp at hs; omega) (by omega)
          have hcs : (nI s'.length).toNatClampNeg = s'.length := nI_clamp (by simp at hs; omega)
          have hb1 : I1 138 s'.length = bI b1 := by
            have := hP 0 b1 rfl
            simpa using this
          have fin : ∀ (b2 : Int32) (o : pm_l), (o = [] ∨ (∃ x, o = [(5, .int x)]) ∨ ∃ x y z, o = [(5, .int x), (6, .int y), (7, .int z)]) → b2 = bI (!b1) → pm_wp X (d + 1) 156 10 ([(0, .ref 122), (1, .int (nI c)), (2, .int (nI i)), (3, .int (nI (b1 :: s').length)), (4, .int (nI (k + 1)))] ++ o) [] 0 0 SH (pm_up I1 138 (pm_up (I1 138) s'.length (vp_nar .boolean b2))) L (RR K) Q := by
            intro b2 o ho hb2
            refine nx _ o _ he.symm ho (fun a ha => pm_up_ne ha) ?_
            refine pls_put (pls_tail hP) ?_ (fun j hj => ?_)
            · rw [pm_up_eq, pm_up_eq, hb2, bI_nar]
            · rw [pm_up_eq, pm_up_ne (by omega)]
          rcases ho with rfl | ⟨x0, rfl⟩ | ⟨x0, y0, z0, rfl⟩
          all_goals
            simp only [List.append_nil, List.cons_append, List.nil_append]
            refine pm_gos (n := 60) (stops := [10]) ?_
            simp only [st_iload_n, st_iload, st_lload_n, st_aload_n, st_aload, st_istore_n, st_istore, st_astore_n, st_astore, st_iconst, st_bipush, st_sipush, st_lconst, st_ldc, st_ldc_w, st_ldc2_w, st_getfield, st_putfieldI, st_putfieldR, st_getstatic, st_iaload, st_iastore, st_baload, st_bastore, st_laload, st_lastore, st_aaload, st_aastore, st_arraylength, st_iadd, st_isub, st_imul, st_iand, st_ior, st_ixor, st_ishl, st_ishr, st_idiv, st_irem, st_ineg, st_land, st_lor, st_lshl, st_i2l, st_l2i, st_i2b, st_i2s, st_i2c, st_lcmp, st_iinc, st_dupI, st_dupR, st_dup2, st_pop, st_goto, st_if_eq, st_icmp_eq, st_if_ne, st_icmp_ne, st_if_lt, st_icmp_lt, st_if_ge, st_icmp_ge, st_if_gt, st_icmp_gt, st_if_le, st_icmp_le, st_tsw, st_lsw, st_newarray, st_anewarray, st_new, st_invokevirtual, st_invokespecial, oin_ref, st_static, st_max, st_min, st_abs, st_copyi, st_copyl, st_ireturn, st_lreturn, st_areturn, st_return, rn_succ, inl_nil, inl_cons, rno_some, oi_some, ol_some, or_some, lk_cons, ins_nil, ins_cons, rm_nil, rm_int, rm_ref, rm_long, pop_0, pop_1, pop_2, pop_3, pop_4, pop_5, pop_6, la_nil, la_int, la_ref, la_long, cat_nil, cat_int, cat_ref, cat_long, call_succ, cont_some, cont_none, rcv_0, rcv_1, rcv_2, rcv_3, rcv_4, rcv_5, rcv_6, rcv_7, rcv_8, rcv_s, rf_some, ret_0, ret_10, ret_11, ret_ite, ite_0, sw_nil, sw_cons, ln_some, isk_some, al_some, ↓reduceIte, Nat.reduceAdd, Nat.reduceEqDiff, Nat.reduceLeDiff, Nat.reduceLT, Int32.reduceLT, Int32.reduceLE, Int32.reduceToNatClampNeg, Int32.reduceOfNat, Int32.reduceAdd, Int32.reduceSub, Int.reduceEq, Int.reduceNeg, Int.reduceLT, Int32.reduceOfInt, Int64.reduceOfInt, Bool.false_eq_true, true_and, and_true, eq_self, not_true_eq_false, not_false_eq_true, false_imp_iff, true_imp_iff, forall_const, or_true, true_or, ne_eq, Nat.zero_add, Nat.add_zero, Nat.le_refl, reduceCtorEq, Ft156, shF, rrF K, hvc, hcc, e2', hge, hvk, hck, q2, hls, hvs, hcs, hb1, bI_0, ← nI_succ]
          · exact ⟨fun z => fin 0 [(5, .int (-33))] (Or.inr (Or.inl ⟨_, rfl⟩)) (by rw [(Bool.not_eq_false _).mp z]; rfl), fun z => fin 1 [(5, .int (-33))] (Or.inr (Or.inl ⟨_, rfl⟩)) (by rw [Decidable.not_not.mp z]; rfl)⟩
          · exact ⟨fun z => fin 0 [(5, .int (-33))] (Or.inr (Or.inl ⟨_, rfl⟩)) (by rw [(Bool.not_eq_false _).mp z]; rfl), fun z => fin 1 [(5, .int (-33))] (Or.inr (Or.inl ⟨_, rfl⟩)) (by rw [Decidable.not_not.mp z]; rfl)⟩
          · exact ⟨fun z => fin 0 [(5, .int (-33)), (6, .int y0), (7, .int z0)] (Or.inr (Or.inr ⟨_, _, _, rfl⟩)) (by rw [(Bool.not_eq_false _).mp z]; rfl), fun z => fin 1 [(5, .int (-33)), (6, .int y0), (7, .int z0)] (Or.inr (Or.inr ⟨_, _, _, rfl⟩)) (by rw [Decidable.not_not.mp z]; rfl)⟩
        · rw [if_neg (by rw [q1]; decide), if_pos (Or.inl q1)] at hdm
          have hev : evM (mw I) i s m0 = evA s := by unfold evM; rw [if_neg (by rw [q1]; decide), if_pos q1]
          rw [hev] at nx
          obtain ⟨b1, b2, s', rfl⟩ : ∃ b1 b2 s', s = b1 :: b2 :: s' := by
            match s with
            | [] => simp at hdm
            | [_] => simp at hdm
            | b1 :: b2 :: s' => exact ⟨b1, b2, s', rfl⟩
          have he : e = s'.length + 1 := by
            rw [if_pos (by simp)] at hdm
            exact (Option.some.inj hdm).symm
          have hm1 : nI (b1 :: b2 :: s').length + -1 = nI (s'.length + 1) := (Int32.sub_eq_add_neg _ _).symm.trans (nI_pred (s'.length + 1))
          have hls : nI (s'.length + 1) - 1 = nI s'.length := nI_pred s'.length
          simp only [List.length_cons] at hs
          have hvs : vp_in (nI s'.length) 100 := vi (by omega) (by omega)
          have hcs : (nI s'.length).toNatClampNeg = s'.length := nI_clamp (by omega)
          have hvs1 : vp_in (nI (s'.length + 1)) 100 := vi (by omega) (by omega)
          have hcs1 : (nI (s'.length + 1)).toNatClampNeg = s'.length + 1 := nI_clamp (by omega)
          have hb1 : I1 138 (s'.length + 1) = bI b1 := by
            have := hP 0 b1 rfl
            simpa using this
          have hb2 : I1 138 s'.length = bI b2 := by
            have := hP 1 b2 rfl
            simpa using this
          have fin : ∀ (v : Int32) (o : pm_l), (o = [] ∨ (∃ x, o = [(5, .int x)]) ∨ ∃ x y z, o = [(5, .int x), (6, .int y), (7, .int z)]) → v = bI (b2 && b1) → pm_wp X (d + 1) 156 10 ([(0, .ref 122), (1, .int (nI c)), (2, .int (nI i)), (3, .int (nI (s'.length + 1))), (4, .int (nI (k + 1)))] ++ o) [] 0 0 SH (pm_up I1 138 (pm_up (I1 138) s'.length (vp_nar .boolean v))) L (RR K) Q := by
            intro v o ho hv
            refine nx _ o _ he.symm ho (fun a ha => pm_up_ne ha) ?_
            refine pls_put (pls_tail (pls_tail hP)) ?_ (fun j hj => ?_)
            · rw [pm_up_eq, pm_up_eq, hv, bI_nar]
            · rw [pm_up_eq, pm_up_ne (by omega)]
          have z33 : ((-38 : Int32) = -33) = False := by decide
          have z38 : ((-124 : Int32) = -38) = False := by decide
          rcases ho with rfl | ⟨x0, rfl⟩ | ⟨x0, y0, z0, rfl⟩
          · have fin := fun v => fin v [(5, .int (-38))] (Or.inr (Or.inl ⟨_, rfl⟩))
            simp only [List.append_nil, List.cons_append, List.nil_append] at fin ⊢
            refine pm_gos (n := 60) (stops := [10]) ?_
            cases b1 <;> cases b2 <;> simp only [st_iload_n, st_iload, st_lload_n, st_aload_n, st_aload, st_istore_n, st_istore, st_astore_n, st_astore, st_iconst, st_bipush, st_sipush, st_lconst, st_ldc, st_ldc_w, st_ldc2_w, st_getfield, st_putfieldI, st_putfieldR, st_getstatic, st_iaload, st_iastore, st_baload, st_bastore, st_laload, st_lastore, st_aaload, st_aastore, st_arraylength, st_iadd, st_isub, st_imul, st_iand, st_ior, st_ixor, st_ishl, st_ishr, st_idiv, st_irem, st_ineg, st_land, st_lor, st_lshl, st_i2l, st_l2i, st_i2b, st_i2s, st_i2c, st_lcmp, st_iinc, st_dupI, st_dupR, st_dup2, st_pop, st_goto, st_if_eq, st_icmp_eq, st_if_ne, st_icmp_ne, st_if_lt, st_icmp_lt, st_if_ge, st_icmp_ge, st_if_gt, st_icmp_gt, st_if_le, st_icmp_le, st_tsw, st_lsw, st_newarray, st_anewarray, st_new, st_invokevirtual, st_invokespecial, oin_ref, st_static, st_max, st_min, st_abs, st_copyi, st_copyl, st_ireturn, st_lreturn, st_areturn, st_return, rn_succ, inl_nil, inl_cons, rno_some, oi_some, ol_some, or_some, lk_cons, ins_nil, ins_cons, rm_nil, rm_int, rm_ref, rm_long, pop_0, pop_1, pop_2, pop_3, pop_4, pop_5, pop_6, la_nil, la_int, la_ref, la_long, cat_nil, cat_int, cat_ref, cat_long, call_succ, cont_some, cont_none, rcv_0, rcv_1, rcv_2, rcv_3, rcv_4, rcv_5, rcv_6, rcv_7, rcv_8, rcv_s, rf_some, ret_0, ret_10, ret_11, ret_ite, ite_0, sw_nil, sw_cons, ln_some, isk_some, al_some, ↓reduceIte, Nat.reduceAdd, Nat.reduceEqDiff, Nat.reduceLeDiff, Nat.reduceLT, Int32.reduceLT, Int32.reduceLE, Int32.reduceToNatClampNeg, Int32.reduceOfNat, Int32.reduceAdd, Int32.reduceSub, Int.reduceEq, Int.reduceNeg, Int.reduceLT, Int32.reduceOfInt, Int64.reduceOfInt, Bool.false_eq_true, true_and, and_true, eq_self, not_true_eq_false, not_false_eq_true, false_imp_iff, true_imp_iff, forall_const, or_true, true_or, ne_eq, Nat.zero_add, Nat.add_zero, Nat.le_refl, reduceCtorEq, Ft156, shF, rrF K, hvc, hcc, e2', hge, hvk, hck, q2, hm1, hls, hvs, hcs, hvs1, hcs1, hb1, hb2, bI_0, z33, z38, ← nI_succ] <;> exact fin _ rfl
          · have fin := fun v => fin v [(5, .int (-38))] (Or.inr (Or.inl ⟨_, rfl⟩))
            simp only [List.append_nil, List.cons_append, List.nil_append] at fin ⊢
            refine pm_gos (n := 60) (stops := [10]) ?_
            cases b1 <;> cases b2 <;> simp only [st_iload_n, st_iload, st_lload_n, st_aload_n, st_aload, st_istore_n, st_istore, st_astore_n, st_astore, st_iconst, st_bipush, st_sipush, st_lconst, st_ldc, st_ldc_w, st_ldc2_w, st_getfield, st_putfieldI, st_putfieldR, st_getstatic, st_iaload, st_iastore, st_baload, st_bastore, st_laload, st_lastore, st_aaload, st_aastore, st_arraylength, st_iadd, st_isub, st_imul, st_iand, st_ior, st_ixor, st_ishl, st_ishr, st_idiv, st_irem, st_ineg, st_land, st_lor, st_lshl, st_i2l, st_l2i, st_i2b, st_i2s, st_i2c, st_lcmp, st_iinc, st_dupI, st_dupR, st_dup2, st_pop, st_goto, st_if_eq, st_icmp_eq, st_if_ne, st_icmp_ne, st_if_lt, st_icmp_lt, st_if_ge, st_icmp_ge, st_if_gt, st_icmp_gt, st_if_le, st_icmp_le, st_tsw, st_lsw, st_newarray, st_anewarray, st_new, st_invokevirtual, st_invokespecial, oin_ref, st_static, st_max, st_min, st_abs, st_copyi, st_copyl, st_ireturn, st_lreturn, st_areturn, st_return, rn_succ, inl_nil, inl_cons, rno_some, oi_some, ol_some, or_some, lk_cons, ins_nil, ins_cons, rm_nil, rm_int, rm_ref, rm_long, pop_0, pop_1, pop_2, pop_3, pop_4, pop_5, pop_6, la_nil, la_int, la_ref, la_long, cat_nil, cat_int, cat_ref, cat_long, call_succ, cont_some, cont_none, rcv_0, rcv_1, rcv_2, rcv_3, rcv_4, rcv_5, rcv_6, rcv_7, rcv_8, rcv_s, rf_some, ret_0, ret_10, ret_11, ret_ite, ite_0, sw_nil, sw_cons, ln_some, isk_some, al_some, ↓reduceIte, Nat.reduceAdd, Nat.reduceEqDiff, Nat.reduceLeDiff, Nat.reduceLT, Int32.reduceLT, Int32.reduceLE, Int32.reduceToNatClampNeg, Int32.reduceOfNat, Int32.reduceAdd, Int32.reduceSub, Int.reduceEq, Int.reduceNeg, Int.reduceLT, Int32.reduceOfInt, Int64.reduceOfInt, Bool.false_eq_true, true_and, and_true, eq_self, not_true_eq_false, not_false_eq_true, false_imp_iff, true_imp_iff, forall_const, or_true, true_or, ne_eq, Nat.zero_add, Nat.add_zero, Nat.le_refl, reduceCtorEq, Ft156, shF, rrF K, hvc, hcc, e2', hge, hvk, hck, q2, hm1, hls, hvs, hcs, hvs1, hcs1, hb1, hb2, bI_0, z33, z38, ← nI_succ] <;> exact fin _ rfl
          · have fin := fun v => fin v [(5, .int (-38)), (6, .int y0), (7, .int z0)] (Or.inr (Or.inr ⟨_, _, _, rfl⟩))
            simp only [List.append_nil, List.cons_append, List.nil_append] at fin ⊢
            refine pm_gos (n := 60) (stops := [10]) ?_
            cases b1 <;> cases b2 <;> simp only [st_iload_n, st_iload, st_lload_n, st_aload_n, st_aload, st_istore_n, st_istore, st_astore_n, st_astore, st_iconst, st_bipush, st_sipush, st_lconst, st_ldc, st_ldc_w, st_ldc2_w, st_getfield, st_putfieldI, st_putfieldR, st_getstatic, st_iaload, st_iastore, st_baload, st_bastore, st_laload, st_lastore, st_aaload, st_aastore, st_arraylength, st_iadd, st_isub, st_imul, st_iand, st_ior, st_ixor, st_ishl, st_ishr, st_idiv, st_irem, st_ineg, st_land, st_lor, st_lshl, st_i2l, st_l2i, st_i2b, st_i2s, st_i2c, st_lcmp, st_iinc, st_dupI, st_dupR, st_dup2, st_pop, st_goto, st_if_eq, st_icmp_eq, st_if_ne, st_icmp_ne, st_if_lt, st_icmp_lt, st_if_ge, st_icmp_ge, st_if_gt, st_icmp_gt, st_if_le, st_icmp_le, st_tsw, st_lsw, st_newarray, st_anewarray, st_new, st_invokevirtual, st_invokespecial, oin_ref, st_static, st_max, st_min, st_abs, st_copyi, st_copyl, st_ireturn, st_lreturn, st_areturn, st_return, rn_succ, inl_nil, inl_cons, rno_some, oi_some, ol_some, or_some, lk_cons, ins_nil, ins_cons, rm_nil, rm_int, rm_ref, rm_long, pop_0, pop_1, pop_2, pop_3, pop_4, pop_5, pop_6, la_nil, la_int, la_ref, la_long, cat_nil, cat_int, cat_ref, cat_long, call_succ, cont_some, cont_none, rcv_0, rcv_1, rcv_2, rcv_3, rcv_4, rcv_5, rcv_6, rcv_7, rcv_8, rcv_s, rf_some, ret_0, ret_10, ret_11, ret_ite, ite_0, sw_nil, sw_cons, ln_some, isk_some, al_some, ↓reduceIte, Nat.reduceAdd, Nat.reduceEqDiff, Nat.reduceLeDiff, Nat.reduceLT, Int32.reduceLT, Int32.reduceLE, Int32.reduceToNatClampNeg, Int32.reduceOfNat, Int32.reduceAdd, Int32.reduceSub, Int.reduceEq, Int.reduceNeg, Int.reduceLT, Int32.reduceOfInt, Int64.reduceOfInt, Bool.false_eq_true, true_and, and_true, eq_self, not_true_eq_false, not_false_eq_true, false_imp_iff, true_imp_iff, forall_const, or_true, true_or, ne_eq, Nat.zero_add, Nat.add_zero, Nat.le_refl, reduceCtorEq, Ft156, shF, rrF K, hvc, hcc, e2', hge, hvk, hck, q2, hm1, hls, hvs, hcs, hvs1, hcs1, hb1, hb2, bI_0, z33, z38, ← nI_succ] <;> exact fin _ rfl
        · rw [if_neg (by rw [q1]; decide), if_pos (Or.inr q1)] at hdm
          have hev : evM (mw I) i s m0 = evO s := by unfold evM; rw [if_neg (by rw [q1]; decide), if_neg (by rw [q1]; decide), if_pos q1]
          rw [hev] at nx
          obtain ⟨b1, b2, s', rfl⟩ : ∃ b1 b2 s', s = b1 :: b2 :: s' := by
            match s with
            | [] => simp at hdm
            | [_] => simp at hdm
            | b1 :: b2 :: s' => exact ⟨b1, b2, s', rfl⟩
          have he : e = s'.length + 1 := by
            rw [if_pos (by simp)] at hdm
            exact (Option.some.inj hdm).symm
          have hm1 : nI (b1 :: b2 :: s').length + -1 = nI (s'.length + 1) := (Int32.sub_eq_add_neg _ _).symm.trans (nI_pred (s'.length + 1))
          have hls : nI (s'.length + 1) - 1 = nI s'.length := nI_pred s'.length
          simp only [List.length_cons] at hs
          have hvs : vp_in (nI s'.length) 100 := vi (by omega) (by omega)
          have hcs : (nI s'.length).toNatClampNeg = s'.length := nI_clamp (by omega)
          have hvs1 : vp_in (nI (s'.length + 1)) 100 := vi (by omega) (by omega)
          have hcs1 : (nI (s'.length + 1)).toNatClampNeg = s'.length + 1 := nI_clamp (by omega)
          have hb1 : I1 138 (s'.length + 1) = bI b1 := by
            have := hP 0 b1 rfl
            simpa using this
          have hb2 : I1 138 s'.length = bI b2 := by
            have := hP 1 b2 rfl
            simpa using this
          have fin : ∀ (v : Int32) (o : pm_l), (o = [] ∨ (∃ x, o = [(5, .int x)]) ∨ ∃ x y z, o = [(5, .int x), (6, .int y), (7, .int z)]) → v = bI (b2 || b1) → pm_wp X (d + 1) 156 10 ([(0, .ref 122), (1, .int (nI c)), (2, .int (nI i)), (3, .int (nI (s'.length + 1))), (4, .int (nI (k + 1)))] ++ o) [] 0 0 SH (pm_up I1 138 (pm_up (I1 138) s'.length (vp_nar .boolean v))) L (RR K) Q := by
            intro v o ho hv
            refine nx _ o _ he.symm ho (fun a ha => pm_up_ne ha) ?_
            refine pls_put (pls_tail (pls_tail hP)) ?_ (fun j hj => ?_)
            · rw [pm_up_eq, pm_up_eq, hv, bI_nar]
            · rw [pm_up_eq, pm_up_ne (by omega)]
          have z33 : ((-124 : Int32) = -33) = False := by decide
          have z38 : ((-124 : Int32) = -38) = False := by decide
          rcases ho with rfl | ⟨x0, rfl⟩ | ⟨x0, y0, z0, rfl⟩
          · have fin := fun v => fin v [(5, .int (-124))] (Or.inr (Or.inl ⟨_, rfl⟩))
            simp only [List.append_nil, List.cons_append, List.nil_append] at fin ⊢
            refine pm_gos (n := 60) (stops := [10]) ?_
            cases b1 <;> cases b2 <;> simp only [st_iload_n, st_iload, st_lload_n, st_aload_n, st_aload, st_istore_n, st_istore, st_astore_n, st_astore, st_iconst, st_bipush, st_sipush, st_lconst, st_ldc, st_ldc_w, st_ldc2_w, st_getfield, st_putfieldI, st_putfieldR, st_getstatic, st_iaload, st_iastore, st_baload, st_bastore, st_laload, st_lastore, st_aaload, st_aastore, st_arraylength, st_iadd, st_isub, st_imul, st_iand, st_ior, st_ixor, st_ishl, st_ishr, st_idiv, st_irem, st_ineg, st_land, st_lor, st_lshl, st_i2l, st_l2i, st_i2b, st_i2s, st_i2c, st_lcmp, st_iinc, st_dupI, st_dupR, st_dup2, st_pop, st_goto, st_if_eq, st_icmp_eq, st_if_ne, st_icmp_ne, st_if_lt, st_icmp_lt, st_if_ge, st_icmp_ge, st_if_gt, st_icmp_gt, st_if_le, st_icmp_le, st_tsw, st_lsw, st_newarray, st_anewarray, st_new, st_invokevirtual, st_invokespecial, oin_ref, st_static, st_max, st_min, st_abs, st_copyi, st_copyl, st_ireturn, st_lreturn, st_areturn, st_return, rn_succ, inl_nil, inl_cons, rno_some, oi_some, ol_some, or_some, lk_cons, ins_nil, ins_cons, rm_nil, rm_int, rm_ref, rm_long, pop_0, pop_1, pop_2, pop_3, pop_4, pop_5, pop_6, la_nil, la_int, la_ref, la_long, cat_nil, cat_int, cat_ref, cat_long, call_succ, cont_some, cont_none, rcv_0, rcv_1, rcv_2, rcv_3, rcv_4, rcv_5, rcv_6, rcv_7, rcv_8, rcv_s, rf_some, ret_0, ret_10, ret_11, ret_ite, ite_0, sw_nil, sw_cons, ln_some, isk_some, al_some, ↓reduceIte, Nat.reduceAdd, Nat.reduceEqDiff, Nat.reduceLeDiff, Nat.reduceLT, Int32.reduceLT, Int32.reduceLE, Int32.reduceToNatClampNeg, Int32.reduceOfNat, Int32.reduceAdd, Int32.reduceSub, Int.reduceEq, Int.reduceNeg, Int.reduceLT, Int32.reduceOfInt, Int64.reduceOfInt, Bool.false_eq_true, true_and, and_true, eq_self, not_true_eq_false, not_false_eq_true, false_imp_iff, true_imp_iff, forall_const, or_true, true_or, ne_eq, Nat.zero_add, Nat.add_zero, Nat.le_refl, reduceCtorEq, Ft156, shF, rrF K, hvc, hcc, e2', hge, hvk, hck, q2, hm1, hls, hvs, hcs, hvs1, hcs1, hb1, hb2, bI_0, z33, z38, ← nI_succ] <;> exact fin _ rfl
          · have fin := fun v => fin v [(5, .int (-124))] (Or.inr (Or.inl ⟨_, rfl⟩))
            simp only [List.append_nil, List.cons_append, List.nil_append] at fin ⊢
            refine pm_gos (n := 60) (stops := [10]) ?_
            cases b1 <;> cases b2 <;> simp only [st_iload_n, st_iload, st_lload_n, st_aload_n, st_aload, st_istore_n, st_istore, st_astore_n, st_astore, st_iconst, st_bipush, st_sipush, st_lconst, st_ldc, st_ldc_w, st_ldc2_w, st_getfield, st_putfieldI, st_putfieldR, st_getstatic, st_iaload, st_iastore, st_baload, st_bastore, st_laload, st_lastore, st_aaload, st_aastore, st_arraylength, st_iadd, st_isub, st_imul, st_iand, st_ior, st_ixor, st_ishl, st_ishr, st_idiv, st_irem, st_ineg, st_land, st_lor, st_lshl, st_i2l, st_l2i, st_i2b, st_i2s, st_i2c, st_lcmp, st_iinc, st_dupI, st_dupR, st_dup2, st_pop, st_goto, st_if_eq, st_icmp_eq, st_if_ne, st_icmp_ne, st_if_lt, st_icmp_lt, st_if_ge, st_icmp_ge, st_if_gt, st_icmp_gt, st_if_le, st_icmp_le, st_tsw, st_lsw, st_newarray, st_anewarray, st_new, st_invokevirtual, st_invokespecial, oin_ref, st_static, st_max, st_min, st_abs, st_copyi, st_copyl, st_ireturn, st_lreturn, st_areturn, st_return, rn_succ, inl_nil, inl_cons, rno_some, oi_some, ol_some, or_some, lk_cons, ins_nil, ins_cons, rm_nil, rm_int, rm_ref, rm_long, pop_0, pop_1, pop_2, pop_3, pop_4, pop_5, pop_6, la_nil, la_int, la_ref, la_long, cat_nil, cat_int, cat_ref, cat_long, call_succ, cont_some, cont_none, rcv_0, rcv_1, rcv_2, rcv_3, rcv_4, rcv_5, rcv_6, rcv_7, rcv_8, rcv_s, rf_some, ret_0, ret_10, ret_11, ret_ite, ite_0, sw_nil, sw_cons, ln_some, isk_some, al_some, ↓reduceIte, Nat.reduceAdd, Nat.reduceEqDiff, Nat.reduceLeDiff, Nat.reduceLT, Int32.reduceLT, Int32.reduceLE, Int32.reduceToNatClampNeg, Int32.reduceOfNat, Int32.reduceAdd, Int32.reduceSub, Int.reduceEq, Int.reduceNeg, Int.reduceLT, Int32.reduceOfInt, Int64.reduceOfInt, Bool.false_eq_true, true_and, and_true, eq_self, not_true_eq_false, not_false_eq_true, false_imp_iff, true_imp_iff, forall_const, or_true, true_or, ne_eq, Nat.zero_add, Nat.add_zero, Nat.le_refl, reduceCtorEq, Ft156, shF, rrF K, hvc, hcc, e2', hge, hvk, hck, q2, hm1, hls, hvs, hcs, hvs1, hcs1, hb1, hb2, bI_0, z33, z38, ← nI_succ] <;> exact fin _ rfl
          · have fin := fun v => fin v [(5, .int (-124)), (6, .int y0), (7, .int z0)] (Or.inr (Or.inr ⟨_, _, _, rfl⟩))
            simp only [List.append_nil, List.cons_append, List.nil_append] at fin ⊢
            refine pm_gos (n := 60) (stops := [10]) ?_
            cases b1 <;> cases b2 <;> simp only [st_iload_n, st_iload, st_lload_n, st_aload_n, st_aload, st_istore_n, st_istore, st_astore_n, st_astore, st_iconst, st_bipush, st_sipush, st_lconst, st_ldc, st_ldc_w, st_ldc2_w, st_getfield, st_putfieldI, st_putfieldR, st_getstatic, st_iaload, st_iastore, st_baload, st_bastore, st_laload, st_lastore, st_aaload, st_aastore, st_arraylength, st_iadd, st_isub, st_imul, st_iand, st_ior, st_ixor, st_ishl, st_ishr, st_idiv, st_irem, st_ineg, st_land, st_lor, st_lshl, st_i2l, st_l2i, st_i2b, st_i2s, st_i2c, st_lcmp, st_iinc, st_dupI, st_dupR, st_dup2, st_pop, st_goto, st_if_eq, st_icmp_eq, st_if_ne, st_icmp_ne, st_if_lt, st_icmp_lt, st_if_ge, st_icmp_ge, st_if_gt, st_icmp_gt, st_if_le, st_icmp_le, st_tsw, st_lsw, st_newarray, st_anewarray, st_new, st_invokevirtual, st_invokespecial, oin_ref, st_static, st_max, st_min, st_abs, st_copyi, st_copyl, st_ireturn, st_lreturn, st_areturn, st_return, rn_succ, inl_nil, inl_cons, rno_some, oi_some, ol_some, or_some, lk_cons, ins_nil, ins_cons, rm_nil, rm_int, rm_ref, rm_long, pop_0, pop_1, pop_2, pop_3, pop_4, pop_5, pop_6, la_nil, la_int, la_ref, la_long, cat_nil, cat_int, cat_ref, cat_long, call_succ, cont_some, cont_none, rcv_0, rcv_1, rcv_2, rcv_3, rcv_4, rcv_5, rcv_6, rcv_7, rcv_8, rcv_s, rf_some, ret_0, ret_10, ret_11, ret_ite, ite_0, sw_nil, sw_cons, ln_some, isk_some, al_some, ↓reduceIte, Nat.reduceAdd, Nat.reduceEqDiff, Nat.reduceLeDiff, Nat.reduceLT, Int32.reduceLT, Int32.reduceLE, Int32.reduceToNatClampNeg, Int32.reduceOfNat, Int32.reduceAdd, Int32.reduceSub, Int.reduceEq, Int.reduceNeg, Int.reduceLT, Int32.reduceOfInt, Int64.reduceOfInt, Bool.false_eq_true, true_and, and_true, eq_self, not_true_eq_false, not_false_eq_true, false_imp_iff, true_imp_iff, forall_const, or_true, true_or, ne_eq, Nat.zero_add, Nat.add_zero, Nat.le_refl, reduceCtorEq, Ft156, shF, rrF K, hvc, hcc, e2', hge, hvk, hck, q2, hm1, hls, hvs, hcs, hvs1, hcs1, hb1, hb2, bI_0, z33, z38, ← nI_succ] <;> exact fin _ rfl
        · obtain ⟨T, hT⟩ : ∃ T, T = 1000 * f + 100 * t + x := ⟨_, rfl⟩
          obtain ⟨U, hU⟩ : ∃ U, U = 10 * f + t := ⟨_, rfl⟩
          rw [← hT] at q2
          have l33 : ¬ nI (ltr f) = 33 ∧ ¬ nI (ltr f) = 38 ∧ ¬ nI (ltr f) = 124 := by
            obtain rfl | rfl | rfl | rfl | rfl | rfl : f = 0 ∨ f = 1 ∨ f = 2 ∨ f = 3 ∨ f = 4 ∨ f = 5 := by omega
            all_goals decide
          rw [if_neg l33.1, if_neg (fun z => z.elim l33.2.1 l33.2.2)] at hdm
          have hev : evM (mw I) i s (nI (ltr f), nI (60 + t), nI x) = cmB (letC (mw I) (nI (ltr f)) i) (nI (60 + t)) (nI x) :: s := by unfold evM; rw [if_neg l33.1, if_neg l33.2.1, if_neg l33.2.2]
          rw [hev] at nx
          have hs3 : s.length < 30 := by
            split at hdm
            next h => exact h
            next => cases hdm
          have he : e = s.length + 1 := by
            rw [if_pos hs3] at hdm
            exact (Option.some.inj hdm).symm
          have hvs : vp_in (nI s.length) 100 := vi (by omega) (by omega)
          have hcs : (nI s.length).toNatClampNeg = s.length := nI_clamp (by omega)
          have z33 : (nI T = -33) = False := eq_false (fun z => by
            have h1 := congrArg Int32.toInt z
            rw [nI_toInt (by omega), show (-33 : Int32).toInt = -33 from by decide] at h1
            omega)
          have zp : 0 ≤ nI T := nI_pos' (by omega)
          have k1 : nI T / 1000 = nI f := by
            rw [show (1000 : Int32) = nI 1000 from rfl, nI_div (by omega) (by omega)]
            congr 1
            omega
          have k2 : nI T / 100 = nI U := by
            rw [show (100 : Int32) = nI 100 from rfl, nI_div (by omega) (by omega)]
            congr 1
            omega
          have k3 : nI U % 10 = nI t := by
            rw [show (10 : Int32) = nI 10 from rfl, nI_mod (by omega) (by omega) (by omega)]
            congr 1
            omega
          have k4 : nI T % 100 = nI x := by
            rw [show (100 : Int32) = nI 100 from rfl, nI_mod (by omega) (by omega) (by omega)]
            congr 1
            omega
          have n0 : ((1000 : Int32) = 0) = False ∧ ((100 : Int32) = 0) = False ∧ ((10 : Int32) = 0) = False := by decide
          have hn : ∀ (y : Int32), letC (mw I1) y i = letC (mw I) y i := fun y => by
            unfold letC
            have hve := mw_cg (I := I) (I' := I1) (fun a ha => g1 a (by omega))
            rw [hve 5 (by omega), hve 1 (by omega), hve 4 (by omega), hve 2 (by omega), hve 0 (by omega)]
          have hd' : cmB (letC (mw I) (nI (ltr f)) i) (nI (60 + t)) (nI x) = true ↔ cmpC (letC (mw I) (nI (ltr f)) i) (nI (60 + t)) (nI x) := by unfold cmB; simp
          have fin : ∀ (v y z : Int32), ((v = 1 ∧ cmpC (letC (mw I) (nI (ltr f)) i) (nI (60 + t)) (nI x)) ∨ (v = 0 ∧ ¬ cmpC (letC (mw I) (nI (ltr f)) i) (nI (60 + t)) (nI x))) → pm_wp X (d + 1) 156 10 [(0, .ref 122), (1, .int (nI c)), (2, .int (nI i)), (3, .int (nI (s.length + 1))), (4, .int (nI (k + 1))), (5, .int (nI T)), (6, .int y), (7, .int z)] [] 0 0 SH (pm_up I1 138 (pm_up (I1 138) s.length (vp_nar .boolean v))) L (RR K) Q := by
            intro v y z hv
            have hv' : v = bI (cmB (letC (mw I) (nI (ltr f)) i) (nI (60 + t)) (nI x)) := by
              rcases hv with ⟨rfl, hv⟩ | ⟨rfl, hv⟩
              · rw [hd'.mpr hv]; rfl
              · cases hcb : cmB (letC (mw I) (nI (ltr f)) i) (nI (60 + t)) (nI x) with
                | true => exact absurd (hd'.mp hcb) hv
                | false => rfl
            refine nx _ [(5, .int _), (6, .int y), (7, .int z)] _ he.symm (Or.inr (Or.inr ⟨_, _, _, rfl⟩)) (fun a ha => pm_up_ne ha) ?_
            refine pls_put hP ?_ (fun j hj => ?_)
            · rw [pm_up_eq, pm_up_eq, hv', bI_nar]
            · rw [pm_up_eq, pm_up_ne (by omega)]
          have c0 : ∀ a b : Int32, cmpC a (nI (60 + 0)) b ↔ a < b := fun a b => by
            unfold cmpC
            rw [if_pos (show nI (60 + 0) = 60 from rfl)]
          have c1 : ∀ a b : Int32, cmpC a (nI (60 + 1)) b ↔ a = b := fun a b => by
            unfold cmpC
            rw [if_neg (show ¬ nI (60 + 1) = 60 from by decide), if_neg (show ¬ nI (60 + 1) = 62 from by decide)]
          have c2 : ∀ a b : Int32, cmpC a (nI (60 + 2)) b ↔ b < a := fun a b => by
            unfold cmpC
            rw [if_neg (show ¬ nI (60 + 2) = 60 from by decide), if_pos (show nI (60 + 2) = 62 from rfl)]
          have z10 : ((1 : Int32) = 0) = False ∧ ((2 : Int32) = 0) = False ∧ ((2 : Int32) = 1) = False := by decide
          have main : pm_wp X (d + 1) 156 143 ([(0, .ref 122), (1, .int (nI c)), (2, .int (nI i)), (3, .int (nI s.length)), (4, .int (nI k)), (5, .int (nI T))] ++ o.drop 1) [] 0 0 SH I1 L (RR K) Q := by
            rcases ho with rfl | ⟨x0, rfl⟩ | ⟨x0, y0, z0, rfl⟩
            all_goals
              simp only [List.append_nil, List.cons_append, List.nil_append, List.drop_nil, List.drop_succ_cons, List.drop_zero]
              refine pm_run_wp (n := 60) (stops := [10]) ?_
              simp only [st_iload_n, st_iload, st_lload_n, st_aload_n, st_aload, st_istore_n, st_istore, st_astore_n, st_astore, st_iconst, st_bipush, st_sipush, st_lconst, st_ldc, st_ldc_w, st_ldc2_w, st_getfield, st_putfieldI, st_putfieldR, st_getstatic, st_iaload, st_iastore, st_baload, st_bastore, st_laload, st_lastore, st_aaload, st_aastore, st_arraylength, st_iadd, st_isub, st_imul, st_iand, st_ior, st_ixor, st_ishl, st_ishr, st_idiv, st_irem, st_ineg, st_land, st_lor, st_lshl, st_i2l, st_l2i, st_i2b, st_i2s, st_i2c, st_lcmp, st_iinc, st_dupI, st_dupR, st_dup2, st_pop, st_goto, st_if_eq, st_icmp_eq, st_if_ne, st_icmp_ne, st_if_lt, st_icmp_lt, st_if_ge, st_icmp_ge, st_if_gt, st_icmp_gt, st_if_le, st_icmp_le, st_tsw, st_lsw, st_newarray, st_anewarray, st_new, st_invokevirtual, st_invokespecial, oin_ref, st_static, st_max, st_min, st_abs, st_copyi, st_copyl, st_ireturn, st_lreturn, st_areturn, st_return, rn_succ, inl_nil, inl_cons, rno_some, oi_some, ol_some, or_some, lk_cons, ins_nil, ins_cons, rm_nil, rm_int, rm_ref, rm_long, pop_0, pop_1, pop_2, pop_3, pop_4, pop_5, pop_6, la_nil, la_int, la_ref, la_long, cat_nil, cat_int, cat_ref, cat_long, call_succ, cont_some, cont_none, rcv_0, rcv_1, rcv_2, rcv_3, rcv_4, rcv_5, rcv_6, rcv_7, rcv_8, rcv_s, rf_some, ret_0, ret_10, ret_11, ret_ite, ite_0, sw_nil, sw_cons, ln_some, isk_some, al_some, ↓reduceIte, Nat.reduceAdd, Nat.reduceEqDiff, Nat.reduceLeDiff, Nat.reduceLT, Int32.reduceLT, Int32.reduceLE, Int32.reduceToNatClampNeg, Int32.reduceOfNat, Int32.reduceAdd, Int32.reduceSub, Int.reduceEq, Int.reduceNeg, Int.reduceLT, Int32.reduceOfInt, Int64.reduceOfInt, Bool.false_eq_true, true_and, and_true, eq_self, not_true_eq_false, not_false_eq_true, false_imp_iff, true_imp_iff, forall_const, or_true, true_or, ne_eq, Nat.zero_add, Nat.add_zero, Nat.le_refl, reduceCtorEq, Ft156, shF, rrF K, k1, n0]
              refine m_factOf hf hi ?_
              rw [hn]
              obtain rfl | rfl | rfl : t = 0 ∨ t = 1 ∨ t = 2 := by omega
              · simp only [st_iload_n, st_iload, st_lload_n, st_aload_n, st_aload, st_istore_n, st_istore, st_astore_n, st_astore, st_iconst, st_bipush, st_sipush, st_lconst, st_ldc, st_ldc_w, st_ldc2_w, st_getfield, st_putfieldI, st_putfieldR, st_getstatic, st_iaload, st_iastore, st_baload, st_bastore, st_laload, st_lastore, st_aaload, st_aastore, st_arraylength, st_iadd, st_isub, st_imul, st_iand, st_ior, st_ixor, st_ishl, st_ishr, st_idiv, st_irem, st_ineg, st_land, st_lor, st_lshl, st_i2l, st_l2i, st_i2b, st_i2s, st_i2c, st_lcmp, st_iinc, st_dupI, st_dupR, st_dup2, st_pop, st_goto, st_if_eq, st_icmp_eq, st_if_ne, st_icmp_ne, st_if_lt, st_icmp_lt, st_if_ge, st_icmp_ge, st_if_gt, st_icmp_gt, st_if_le, st_icmp_le, st_tsw, st_lsw, st_newarray, st_anewarray, st_new, st_invokevirtual, st_invokespecial, oin_ref, st_static, st_max, st_min, st_abs, st_copyi, st_copyl, st_ireturn, st_lreturn, st_areturn, st_return, rn_succ, inl_nil, inl_cons, rno_some, oi_some, ol_some, or_some, lk_cons, ins_nil, ins_cons, rm_nil, rm_int, rm_ref, rm_long, pop_0, pop_1, pop_2, pop_3, pop_4, pop_5, pop_6, la_nil, la_int, la_ref, la_long, cat_nil, cat_int, cat_ref, cat_long, call_succ, cont_some, cont_none, rcv_0, rcv_1, rcv_2, rcv_3, rcv_4, rcv_5, rcv_6, rcv_7, rcv_8, rcv_s, rf_some, ret_0, ret_10, ret_11, ret_ite, ite_0, sw_nil, sw_cons, ln_some, isk_some, al_some, ↓reduceIte, Nat.reduceAdd, Nat.reduceEqDiff, Nat.reduceLeDiff, Nat.reduceLT, Int32.reduceLT, Int32.reduceLE, Int32.reduceToNatClampNeg, Int32.reduceOfNat, Int32.reduceAdd, Int32.reduceSub, Int.reduceEq, Int.reduceNeg, Int.reduceLT, Int32.reduceOfInt, Int64.reduceOfInt, Bool.false_eq_true, true_and, and_true, eq_self, not_true_eq_false, not_false_eq_true, false_imp_iff, true_imp_iff, forall_const, or_true, true_or, ne_eq, Nat.zero_add, Nat.add_zero, Nat.le_refl, reduceCtorEq, Ft156, shF, rrF K, hvs, hcs, k2, k3, k4, n0, nlt, z10, ← nI_succ]
                exact ⟨fun z => fin _ _ _ (Or.inr ⟨rfl, fun y => Int32.not_lt.mpr z ((c0 _ _).mp y)⟩), fun z => fin _ _ _ (Or.inl ⟨rfl, (c0 _ _).mpr (Int32.not_le.mp z)⟩)⟩
              · simp only [st_iload_n, st_iload, st_lload_n, st_aload_n, st_aload, st_istore_n, st_istore, st_astore_n, st_astore, st_iconst, st_bipush, st_sipush, st_lconst, st_ldc, st_ldc_w, st_ldc2_w, st_getfield, st_putfieldI, st_putfieldR, st_getstatic, st_iaload, st_iastore, st_baload, st_bastore, st_laload, st_lastore, st_aaload, st_aastore, st_arraylength, st_iadd, st_isub, st_imul, st_iand, st_ior, st_ixor, st_ishl, st_ishr, st_idiv, st_irem, st_ineg, st_land, st_lor, st_lshl, st_i2l, st_l2i, st_i2b, st_i2s, st_i2c, st_lcmp, st_iinc, st_dupI, st_dupR, st_dup2, st_pop, st_goto, st_if_eq, st_icmp_eq, st_if_ne, st_icmp_ne, st_if_lt, st_icmp_lt, st_if_ge, st_icmp_ge, st_if_gt, st_icmp_gt, st_if_le, st_icmp_le, st_tsw, st_lsw, st_newarray, st_anewarray, st_new, st_invokevirtual, st_invokespecial, oin_ref, st_static, st_max, st_min, st_abs, st_copyi, st_copyl, st_ireturn, st_lreturn, st_areturn, st_return, rn_succ, inl_nil, inl_cons, rno_some, oi_some, ol_some, or_some, lk_cons, ins_nil, ins_cons, rm_nil, rm_int, rm_ref, rm_long, pop_0, pop_1, pop_2, pop_3, pop_4, pop_5, pop_6, la_nil, la_int, la_ref, la_long, cat_nil, cat_int, cat_ref, cat_long, call_succ, cont_some, cont_none, rcv_0, rcv_1, rcv_2, rcv_3, rcv_4, rcv_5, rcv_6, rcv_7, rcv_8, rcv_s, rf_some, ret_0, ret_10, ret_11, ret_ite, ite_0, sw_nil, sw_cons, ln_some, isk_some, al_some, ↓reduceIte, Nat.reduceAdd, Nat.reduceEqDiff, Nat.reduceLeDiff, Nat.reduceLT, Int32.reduceLT, Int32.reduceLE, Int32.reduceToNatClampNeg, Int32.reduceOfNat, Int32.reduceAdd, Int32.reduceSub, Int.reduceEq, Int.reduceNeg, Int.reduceLT, Int32.reduceOfInt, Int64.reduceOfInt, Bool.false_eq_true, true_and, and_true, eq_self, not_true_eq_false, not_false_eq_true, false_imp_iff, true_imp_iff, forall_const, or_true, true_or, ne_eq, Nat.zero_add, Nat.add_zero, Nat.le_refl, reduceCtorEq, Ft156, shF, rrF K, hvs, hcs, k2, k3, k4, n0, nlt, z10, ← nI_succ]
                exact ⟨fun z => fin _ _ _ (Or.inr ⟨rfl, fun y => z ((c1 _ _).mp y)⟩), fun z => fin _ _ _ (Or.inl ⟨rfl, (c1 _ _).mpr (Decidable.not_not.mp z)⟩)⟩
              · simp only [st_iload_n, st_iload, st_lload_n, st_aload_n, st_aload, st_istore_n, st_istore, st_astore_n, st_astore, st_iconst, st_bipush, st_sipush, st_lconst, st_ldc, st_ldc_w, st_ldc2_w, st_getfield, st_putfieldI, st_putfieldR, st_getstatic, st_iaload, st_iastore, st_baload, st_bastore, st_laload, st_lastore, st_aaload, st_aastore, st_arraylength, st_iadd, st_isub, st_imul, st_iand, st_ior, st_ixor, st_ishl, st_ishr, st_idiv, st_irem, st_ineg, st_land, st_lor, st_lshl, st_i2l, st_l2i, st_i2b, st_i2s, st_i2c, st_lcmp, st_iinc, st_dupI, st_dupR, st_dup2, st_pop, st_goto, st_if_eq, st_icmp_eq, st_if_ne, st_icmp_ne, st_if_lt, st_icmp_lt, st_if_ge, st_icmp_ge, st_if_gt, st_icmp_gt, st_if_le, st_icmp_le, st_tsw, st_lsw, st_newarray, st_anewarray, st_new, st_invokevirtual, st_invokespecial, oin_ref, st_static, st_max, st_min, st_abs, st_copyi, st_copyl, st_ireturn, st_lreturn, st_areturn, st_return, rn_succ, inl_nil, inl_cons, rno_some, oi_some, ol_some, or_some, lk_cons, ins_nil, ins_cons, rm_nil, rm_int, rm_ref, rm_long, pop_0, pop_1, pop_2, pop_3, pop_4, pop_5, pop_6, la_nil, la_int, la_ref, la_long, cat_nil, cat_int, cat_ref, cat_long, call_succ, cont_some, cont_none, rcv_0, rcv_1, rcv_2, rcv_3, rcv_4, rcv_5, rcv_6, rcv_7, rcv_8, rcv_s, rf_some, ret_0, ret_10, ret_11, ret_ite, ite_0, sw_nil, sw_cons, ln_some, isk_some, al_some, ↓reduceIte, Nat.reduceAdd, Nat.reduceEqDiff, Nat.reduceLeDiff, Nat.reduceLT, Int32.reduceLT, Int32.reduceLE, Int32.reduceToNatClampNeg, Int32.reduceOfNat, Int32.reduceAdd, Int32.reduceSub, Int.reduceEq, Int.reduceNeg, Int.reduceLT, Int32.reduceOfInt, Int64.reduceOfInt, Bool.false_eq_true, true_and, and_true, eq_self, not_true_eq_false, not_false_eq_true, false_imp_iff, true_imp_iff, forall_const, or_true, true_or, ne_eq, Nat.zero_add, Nat.add_zero, Nat.le_refl, reduceCtorEq, Ft156, shF, rrF K, hvs, hcs, k2, k3, k4, n0, nlt, z10, ← nI_succ]
                exact ⟨fun z => fin _ _ _ (Or.inr ⟨rfl, fun y => Int32.not_lt.mpr z ((c2 _ _).mp y)⟩), fun z => fin _ _ _ (Or.inl ⟨rfl, (c2 _ _).mpr (Int32.not_le.mp z)⟩)⟩
          rcases ho with rfl | ⟨x0, rfl⟩ | ⟨x0, y0, z0, rfl⟩
          all_goals
            simp only [List.append_nil, List.cons_append, List.nil_append, List.drop_nil, List.drop_succ_cons, List.drop_zero] at main ⊢
            refine pm_gos (n := 60) (stops := [10, 143]) ?_
            simp only [st_iload_n, st_iload, st_lload_n, st_aload_n, st_aload, st_istore_n, st_istore, st_astore_n, st_astore, st_iconst, st_bipush, st_sipush, st_lconst, st_ldc, st_ldc_w, st_ldc2_w, st_getfield, st_putfieldI, st_putfieldR, st_getstatic, st_iaload, st_iastore, st_baload, st_bastore, st_laload, st_lastore, st_aaload, st_aastore, st_arraylength, st_iadd, st_isub, st_imul, st_iand, st_ior, st_ixor, st_ishl, st_ishr, st_idiv, st_irem, st_ineg, st_land, st_lor, st_lshl, st_i2l, st_l2i, st_i2b, st_i2s, st_i2c, st_lcmp, st_iinc, st_dupI, st_dupR, st_dup2, st_pop, st_goto, st_if_eq, st_icmp_eq, st_if_ne, st_icmp_ne, st_if_lt, st_icmp_lt, st_if_ge, st_icmp_ge, st_if_gt, st_icmp_gt, st_if_le, st_icmp_le, st_tsw, st_lsw, st_newarray, st_anewarray, st_new, st_invokevirtual, st_invokespecial, oin_ref, st_static, st_max, st_min, st_abs, st_copyi, st_copyl, st_ireturn, st_lreturn, st_areturn, st_return, rn_succ, inl_nil, inl_cons, rno_some, oi_some, ol_some, or_some, lk_cons, ins_nil, ins_cons, rm_nil, rm_int, rm_ref, rm_long, pop_0, pop_1, pop_2, pop_3, pop_4, pop_5, pop_6, la_nil, la_int, la_ref, la_long, cat_nil, cat_int, cat_ref, cat_long, call_succ, cont_some, cont_none, rcv_0, rcv_1, rcv_2, rcv_3, rcv_4, rcv_5, rcv_6, rcv_7, rcv_8, rcv_s, rf_some, ret_0, ret_10, ret_11, ret_ite, ite_0, sw_nil, sw_cons, ln_some, isk_some, al_some, ↓reduceIte, Nat.reduceAdd, Nat.reduceEqDiff, Nat.reduceLeDiff, Nat.reduceLT, Int32.reduceLT, Int32.reduceLE, Int32.reduceToNatClampNeg, Int32.reduceOfNat, Int32.reduceAdd, Int32.reduceSub, Int.reduceEq, Int.reduceNeg, Int.reduceLT, Int32.reduceOfInt, Int64.reduceOfInt, Bool.false_eq_true, true_and, and_true, eq_self, not_true_eq_false, not_false_eq_true, false_imp_iff, true_imp_iff, forall_const, or_true, true_or, ne_eq, Nat.zero_add, Nat.add_zero, Nat.le_refl, reduceCtorEq, Ft156, shF, rrF K, hvc, hcc, e2', hge, hvk, hck, q2, z33, zp]
            exact main
  refine pm_run_wp (n := 20) (stops := [10]) ?_
  simp only [st_iload_n, st_iload, st_lload_n, st_aload_n, st_aload, st_istore_n, st_istore, st_astore_n, st_astore, st_iconst, st_bipush, st_sipush, st_lconst, st_ldc, st_ldc_w, st_ldc2_w, st_getfield, st_putfieldI, st_putfieldR, st_getstatic, st_iaload, st_iastore, st_baload, st_bastore, st_laload, st_lastore, st_aaload, st_aastore, st_arraylength, st_iadd, st_isub, st_imul, st_iand, st_ior, st_ixor, st_ishl, st_ishr, st_idiv, st_irem, st_ineg, st_land, st_lor, st_lshl, st_i2l, st_l2i, st_i2b, st_i2s, st_i2c, st_lcmp, st_iinc, st_dupI, st_dupR, st_dup2, st_pop, st_goto, st_if_eq, st_icmp_eq, st_if_ne, st_icmp_ne, st_if_lt, st_icmp_lt, st_if_ge, st_icmp_ge, st_if_gt, st_icmp_gt, st_if_le, st_icmp_le, st_tsw, st_lsw, st_newarray, st_anewarray, st_new, st_invokevirtual, st_invokespecial, oin_ref, st_static, st_max, st_min, st_abs, st_copyi, st_copyl, st_ireturn, st_lreturn, st_areturn, st_return, rn_succ, inl_nil, inl_cons, rno_some, oi_some, ol_some, or_some, lk_cons, ins_nil, ins_cons, rm_nil, rm_int, rm_ref, rm_long, pop_0, pop_1, pop_2, pop_3, pop_4, pop_5, pop_6, la_nil, la_int, la_ref, la_long, cat_nil, cat_int, cat_ref, cat_long, call_succ, cont_some, cont_none, rcv_0, rcv_1, rcv_2, rcv_3, rcv_4, rcv_5, rcv_6, rcv_7, rcv_8, rcv_s, rf_some, ret_0, ret_10, ret_11, ret_ite, ite_0, sw_nil, sw_cons, ln_some, isk_some, al_some, ↓reduceIte, Nat.reduceAdd, Nat.reduceEqDiff, Nat.reduceLeDiff, Nat.reduceLT, Int32.reduceLT, Int32.reduceLE, Int32.reduceToNatClampNeg, Int32.reduceOfNat, Int32.reduceAdd, Int32.reduceSub, Int.reduceEq, Int.reduceNeg, Int.reduceLT, Int32.reduceOfInt, Int64.reduceOfInt, Bool.false_eq_true, true_and, and_true, eq_self, not_true_eq_false, not_false_eq_true, false_imp_iff, true_imp_iff, forall_const, or_true, true_or, ne_eq, Nat.zero_add, Nat.add_zero, Nat.le_refl, reduceCtorEq, Ft156, shF, rrF K, hvc, hcc, e1]
  exact loop ms fr [] I [] rfl (Or.inl rfl) e4 (fun _ _ => rfl) (fun j b hj => by cases hj) (by simp) hd h
end MKT
