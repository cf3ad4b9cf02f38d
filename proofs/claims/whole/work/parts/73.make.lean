/-! THE CONSTRUCTORS: the cells come in the order of SH -/
theorem sh_tk {b : Nat} {x : Nat × Nat} (h : SH[b]? = some x) : SH.take b ++ [x] = SH.take (b + 1) := by
  obtain ⟨h1, h2⟩ := List.getElem?_eq_some_iff.mp h
  rw [List.take_succ_eq_append_getElem h1, h2]
theorem sh_ln {b : Nat} (h : b ≤ 170) : (SH.take b).length = b := by
  rw [List.length_take]
  have : SH.length = 170 := by decide +kernel
  omega
theorem sh_at {b m : Nat} (h : b < m) : (SH.take m)[b]? = SH[b]? := List.getElem?_take_of_lt h
/-- the class's numbers as they are laid -/
def ltr0 : List Int32 := [108, 111, 117, 100, 101, 114, 115, 111, 102, 116, 101, 114, 115, 116, 101, 112, 119, 97, 107, 101, 112, 97, 121]
def I0 : pm_I := fun a j => if a = 31 ∨ (74 ≤ a ∧ a < 110 ∧ (a - 74) % 6 = 0) then (if j = 0 then 2 else if j = 1 then 60 else if j = 2 then 5 else 0) else if 110 ≤ a ∧ a < 122 ∧ a % 2 = 0 ∧ j = 0 then -1 else if a = 122 ∧ (j = 11 ∨ j = 48) then -1 else if a = 137 then ltr0.getD j 0 else if a = 166 ∧ j < 6 then -1 else 0
def K0 : Nat → Nat := fun _ => 31
/-- the references: cells 1 and 30 as far as they are filled -/
def TT (Ua Ub : Nat → Option Nat) : pm_R := pm_up (pm_up (RR K0) 1 Ua) 30 Ub
def CF (Ua Ub : Nat → Option Nat) (e m : Nat) (I : pm_I) (L : pm_L) (R : pm_R) : Prop := (∀ a, 1 ≤ a → ¬ a = e → a < m → I a = I0 a ∧ L a = (fun _ => 0) ∧ R a = TT Ua Ub a) ∧ ∀ a, m ≤ a → R a = fun _ => none
def CN (Ua Ub : Nat → Option Nat) (e b : Nat) (I : pm_I) (L : pm_L) (R : pm_R) : Prop := CF Ua Ub e b I L R ∧ I b = (fun _ => 0) ∧ L b = fun _ => 0
section MAKE
variable {Ua Ub : Nat → Option Nat} {X : pm_X} {d : Nat} {I : pm_I} {L : pm_L} {R : pm_R} {Q : pm_Q}
theorem cn_new {e b : Nat} (c : CF Ua Ub e b I L R) : CN Ua Ub e b (pm_up I b fun _ => 0) (pm_up L b fun _ => 0) (pm_up R b fun _ => none) := by
  refine ⟨⟨fun a h1 he h2 => ?_, fun a h1 => ?_⟩, if_pos rfl, if_pos rfl⟩
  · have e : ¬ a = b := by omega
    unfold pm_up
    rw [if_neg e, if_neg e, if_neg e]
    exact c.1 a h1 he h2
  · unfold pm_up
    by_cases e : a = b
    · rw [if_pos e]
    · rw [if_neg e]; exact c.2 a h1
theorem rm_1 {mi n b : Nat} (hc : (0 : Nat) + 1 ≤ (pm_cst mi).1) (hs : 0 + n ≤ (pm_cst mi).2) (hn : n ≤ 100000) (hb : b < 160) : pm_rm1 mi 0 0 n (SH.take (b + 1)) [(0, .ref b)] [.ref b] := by
  have l1 : (SH.take (b + 1)).length = b + 1 := sh_ln (by omega)
  refine ⟨hc, hs, hn, by omega, ?_, ?_⟩
  · intro q hq i e
    rw [List.mem_singleton] at hq
    subst hq
    cases e
    exact Or.inl (Nat.lt_of_lt_of_eq (Nat.lt_succ_self b) l1.symm)
  · intro v hv i e
    rw [List.mem_singleton] at hv
    subst hv
    cases e
    exact Or.inl (Nat.lt_of_lt_of_eq (Nat.lt_succ_self b) l1.symm)
theorem w_x69 {b e : Nat} (hb : b < 160) (hb1 : 1 ≤ b) (he : e < b) (h0 : SH[b]? = some (0, 6)) (h1 : SH[b + 1]? = some (3, 60)) (c : CN Ua Ub e b I L R) (x0 : I0 b = pm_up (pm_up (fun _ => 0) 0 (-1)) 1 0) (x1 : I0 (b + 1) = fun _ => 0) (y0 : TT Ua Ub b = pm_up (fun _ => none) 2 (some (b + 1))) (y1 : TT Ua Ub (b + 1) = fun _ => none)
    (h : ∀ (I' : pm_I) (L' : pm_L) (R' : pm_R), CF Ua Ub e (b + 2) I' L' R' → (∀ a, a = 0 ∨ a = e → I' a = I a ∧ L' a = L a ∧ R' a = R a) → Q none (SH.take (b + 2)) I' L' R') : pm_wp X (d + 1) 69 0 [(0, .ref b)] [] 0 0 (SH.take (b + 1)) I L R Q := by
  have e0 : (SH.take (b + 1))[b]? = some (0, 6) := (sh_at (by omega)).trans h0
  have e1 : (SH.take (b + 2))[b]? = some (0, 6) := (sh_at (by omega)).trans h0
  have l1 : (SH.take (b + 1)).length = b + 1 := sh_ln (by omega)
  have l2 : (SH.take (b + 2)).length = b + 2 := sh_ln (by omega)
  have t1 : SH.take (b + 1) ++ [(3, 60)] = SH.take (b + 2) := sh_tk h1
  have u0 : ∀ (f : Nat → Int32), pm_up I b f b = f := fun f => if_pos rfl
  have u1 : pm_up R (b + 1) (fun _ => none) b = R b := if_neg (by omega)
  refine pm_gos (n := 60) (stops := []) ?_
  simp only [st_iload_n, st_iload, st_lload_n, st_aload_n, st_aload, st_istore_n, st_istore, st_astore_n, st_astore, st_iconst, st_bipush, st_sipush, st_lconst, st_ldc, st_ldc_w, st_ldc2_w, st_getfield, st_putfieldI, st_putfieldR, st_getstatic, st_iaload, st_iastore, st_baload, st_bastore, st_laload, st_lastore, st_aaload, st_aastore, st_arraylength, st_iadd, st_isub, st_imul, st_iand, st_ior, st_ixor, st_ishl, st_ishr, st_idiv, st_irem, st_ineg, st_land, st_lor, st_lshl, st_i2l, st_l2i, st_i2b, st_i2s, st_i2c, st_lcmp, st_iinc, st_dupI, st_dupR, st_dup2, st_pop, st_goto, st_if_eq, st_icmp_eq, st_if_ne, st_icmp_ne, st_if_lt, st_icmp_lt, st_if_ge, st_icmp_ge, st_if_gt, st_icmp_gt, st_if_le, st_icmp_le, st_tsw, st_lsw, st_newarray, st_anewarray, st_new, st_invokevirtual, st_invokespecial, oin_ref, st_static, st_max, st_min, st_abs, st_copyi, st_copyl, st_ireturn, st_lreturn, st_areturn, st_return, rn_succ, inl_nil, inl_cons, rno_some, oi_some, ol_some, or_some, lk_cons, ins_nil, ins_cons, rm_nil, rm_int, rm_ref, rm_long, pop_0, pop_1, pop_2, pop_3, pop_4, pop_5, pop_6, la_nil, la_int, la_ref, la_long, cat_nil, cat_int, cat_ref, cat_long, call_succ, cont_some, cont_none, rcv_0, rcv_1, rcv_2, rcv_3, rcv_4, rcv_5, rcv_6, rcv_7, rcv_8, rcv_s, rf_some, ret_0, ret_10, ret_11, ret_ite, ite_0, sw_nil, sw_cons, ln_some, isk_some, al_some, ↓reduceIte, Nat.reduceAdd, Nat.reduceEqDiff, Nat.reduceLeDiff, Nat.reduceLT, Int32.reduceLT, Int32.reduceLE, Int32.reduceToNatClampNeg, Int32.reduceOfNat, Int32.reduceAdd, Int32.reduceSub, Int.reduceEq, Int.reduceNeg, Int.reduceLT, Int32.reduceOfInt, Int64.reduceOfInt, Bool.false_eq_true, true_and, and_true, eq_self, not_true_eq_false, not_false_eq_true, false_imp_iff, true_imp_iff, forall_const, or_true, true_or, ne_eq, Nat.zero_add, Nat.add_zero, Nat.le_refl, reduceCtorEq, Ft69, e0, e1, l1, l2, t1, u0, u1]
  refine ⟨by unfold pm_nf3; omega, rm_1 (by decide) (by decide) (by omega) hb, by omega, ?_⟩
  obtain ⟨⟨c1, c2⟩, c3, c4⟩ := c
  refine h _ _ _ ⟨fun a g1 ge g2 => ?_, fun a g1 => ?_⟩ (fun a ha => ?_)
  · unfold pm_up
    by_cases z : a = b + 1
    · subst z
      rw [if_pos rfl, if_pos rfl, if_neg (by omega), if_pos rfl]
      exact ⟨x1.symm, rfl, y1.symm⟩
    · by_cases w : a = b
      · subst w
        rw [if_neg z, if_pos rfl, if_neg z, if_pos rfl, c3, c4, c2 a (Nat.le_refl _)]
        exact ⟨x0.symm, rfl, y0.symm⟩
      · rw [if_neg z, if_neg w, if_neg w, if_neg z, if_neg w, if_neg z]
        exact c1 a g1 ge (by omega)
  · unfold pm_up
    rw [if_neg (by omega), if_neg (by omega)]
    exact c2 a (by omega)
  · have n1 : ¬ a = b := by omega
    have n2 : ¬ a = b + 1 := by omega
    unfold pm_up
    rw [if_neg n2, if_neg n1, if_neg n1, if_neg n2, if_neg n1, if_neg n2]
    exact ⟨rfl, rfl, rfl⟩
theorem scl_n {m : Nat} : pm_scl m [] := fun q hq => absurd hq List.not_mem_nil
theorem scl_r {m a j : Nat} {l : pm_l} (h : a < m) (g : pm_scl m l) : pm_scl m ((j, .ref a) :: l) := by
  intro q hq i e
  rcases List.mem_cons.mp hq with z | z
  · subst z; cases e; exact Or.inl h
  · exact g q z i e
theorem scl_i {m j : Nat} {x : Int32} {l : pm_l} (g : pm_scl m l) : pm_scl m ((j, .int x) :: l) := by
  intro q hq i e
  rcases List.mem_cons.mp hq with z | z
  · subst z; cases e
  · exact g q z i e
theorem scv_n {m : Nat} : pm_scv m [] := fun q hq => absurd hq List.not_mem_nil
theorem scv_r {m a : Nat} {l : List Value} (h : a < m) (g : pm_scv m l) : pm_scv m (.ref a :: l) := by
  intro q hq i e
  rcases List.mem_cons.mp hq with z | z
  · subst z; cases e; exact Or.inl h
  · exact g q z i e
theorem scv_i {m : Nat} {x : Int32} {l : List Value} (g : pm_scv m l) : pm_scv m (.int x :: l) := by
  intro q hq i e
  rcases List.mem_cons.mp hq with z | z
  · subst z; cases e
  · exact g q z i e
theorem rm_g {mi c s n m : Nat} {l : pm_l} {rest : List Value} (hm : m ≤ 170) (hc : c + 1 ≤ (pm_cst mi).1) (hs : s + n ≤ (pm_cst mi).2) (hn : n ≤ 100000) (hl : pm_scl m l) (hr : pm_scv m rest) : pm_rm1 mi c s n (SH.take m) l rest := by
  have l1 : (SH.take m).length = m := sh_ln hm
  unfold pm_rm1
  rw [l1]
  exact ⟨hc, hs, hn, by omega, hl, hr⟩
theorem up_0 {k : Nat} : pm_up (fun _ => (0 : Int32)) k 0 = fun _ => 0 := by
  funext j
  simp [pm_up]
theorem w_x29 {b e : Nat} (hb : b < 160) (hb1 : 1 ≤ b) (he : e < b) (h0 : SH[b]? = some (0, 3)) (h1 : SH[b + 1]? = some (1, 100)) (c : CN Ua Ub e b I L R) (x0 : I0 b = fun _ => 0) (x1 : I0 (b + 1) = fun _ => 0) (y0 : TT Ua Ub b = pm_up (fun _ => none) 2 (some (b + 1))) (y1 : TT Ua Ub (b + 1) = fun _ => none)
    (h : ∀ (I' : pm_I) (L' : pm_L) (R' : pm_R), CF Ua Ub e (b + 2) I' L' R' → (∀ a, a = 0 ∨ a = e → I' a = I a ∧ L' a = L a ∧ R' a = R a) → Q none (SH.take (b + 2)) I' L' R') : pm_wp X (d + 1) 29 0 [(0, .ref b)] [] 0 0 (SH.take (b + 1)) I L R Q := by
  have e0 : (SH.take (b + 1))[b]? = some (0, 3) := (sh_at (by omega)).trans h0
  have e1 : (SH.take (b + 2))[b]? = some (0, 3) := (sh_at (by omega)).trans h0
  have l1 : (SH.take (b + 1)).length = b + 1 := sh_ln (by omega)
  have l2 : (SH.take (b + 2)).length = b + 2 := sh_ln (by omega)
  have t1 : SH.take (b + 1) ++ [(1, 100)] = SH.take (b + 2) := sh_tk h1
  refine pm_gos (n := 60) (stops := []) ?_
  simp only [st_iload_n, st_iload, st_lload_n, st_aload_n, st_aload, st_istore_n, st_istore, st_astore_n, st_astore, st_iconst, st_bipush, st_sipush, st_lconst, st_ldc, st_ldc_w, st_ldc2_w, st_getfield, st_putfieldI, st_putfieldR, st_getstatic, st_iaload, st_iastore, st_baload, st_bastore, st_laload, st_lastore, st_aaload, st_aastore, st_arraylength, st_iadd, st_isub, st_imul, st_iand, st_ior, st_ixor, st_ishl, st_ishr, st_idiv, st_irem, st_ineg, st_land, st_lor, st_lshl, st_i2l, st_l2i, st_i2b, st_i2s, st_i2c, st_lcmp, st_iinc, st_dupI, st_dupR, st_dup2, st_pop, st_goto, st_if_eq, st_icmp_eq, st_if_ne, st_icmp_ne, st_if_lt, st_icmp_lt, st_if_ge, st_icmp_ge, st_if_gt, st_icmp_gt, st_if_le, st_icmp_le, st_tsw, st_lsw, st_newarray, st_anewarray, st_new, st_invokevirtual, st_invokespecial, oin_ref, st_static, st_max, st_min, st_abs, st_copyi, st_copyl, st_ireturn, st_lreturn, st_areturn, st_return, rn_succ, inl_nil, inl_cons, rno_some, oi_some, ol_some, or_some, lk_cons, ins_nil, ins_cons, rm_nil, rm_int, rm_ref, rm_long, pop_0, pop_1, pop_2, pop_3, pop_4, pop_5, pop_6, la_nil, la_int, la_ref, la_long, cat_nil, cat_int, cat_ref, cat_long, call_succ, cont_some, cont_none, rcv_0, rcv_1, rcv_2, rcv_3, rcv_4, rcv_5, rcv_6, rcv_7, rcv_8, rcv_s, rf_some, ret_0, ret_10, ret_11, ret_ite, ite_0, sw_nil, sw_cons, ln_some, isk_some, al_some, ↓reduceIte, Nat.reduceAdd, Nat.reduceEqDiff, Nat.reduceLeDiff, Nat.reduceLT, Int32.reduceLT, Int32.reduceLE, Int32.reduceToNatClampNeg, Int32.reduceOfNat, Int32.reduceAdd, Int32.reduceSub, Int.reduceEq, Int.reduceNeg, Int.reduceLT, Int32.reduceOfInt, Int64.reduceOfInt, Bool.false_eq_true, true_and, and_true, eq_self, not_true_eq_false, not_false_eq_true, false_imp_iff, true_imp_iff, forall_const, or_true, true_or, ne_eq, Nat.zero_add, Nat.add_zero, Nat.le_refl, reduceCtorEq, Ft29, e0, e1, l1, l2, t1]
  refine ⟨by unfold pm_nf3; omega, rm_g (by omega) (by decide) (by decide) (by omega) (scl_r (by omega) scl_n) (scv_r (by omega) scv_n), by omega, ?_⟩
  obtain ⟨⟨c1, c2⟩, c3, c4⟩ := c
  refine h _ _ _ ⟨fun a g1 ge g2 => ?_, fun a g1 => ?_⟩ (fun a ha => ?_)
  · by_cases z : a = b + 1
    · subst z
      simp [pm_up, x1, y1]
    · by_cases w : a = b
      · subst w
        simp [pm_up, c3, c4, x0, y0, c2 a (Nat.le_refl _)]
        rw [up_0, up_0, up_0]
      · simp [pm_up, z, w]
        exact c1 a g1 ge (by omega)
  · have n1 : ¬ a = b := by omega
    have n2 : ¬ a = b + 1 := by omega
    simp [pm_up, n1, n2]
    exact c2 a (by omega)
  · have n1 : ¬ a = b := by omega
    have n2 : ¬ a = b + 1 := by omega
    simp [pm_up, n1, n2]
/-- an array's cell -/
def arr (a : Nat) : Bool := match SH[a]? with
  | some (k, _) => 1 ≤ k && k ≤ 3 && !(a == 137) && !(a == 166)
  | none => false
theorem ar_0a : ∀ a, a < 170 → arr a = true → (RRl.getD a []).isEmpty = true ∧ ¬ a = 37 ∧ ¬ a = 49 ∧ ¬ a = 62 := by decide +kernel
theorem ar_0b : ∀ a, a < 170 → arr a = true → ¬ a = 31 ∧ ¬ (74 ≤ a ∧ a < 110 ∧ (a - 74) % 6 = 0) := by decide +kernel
theorem ar_0c : ∀ a, a < 170 → arr a = true → ¬ (110 ≤ a ∧ a < 122 ∧ a % 2 = 0) ∧ ¬ a = 122 := by decide +kernel
theorem ar_0 {a : Nat} (h : a < 170) (g : arr a = true) : (RRl.getD a []).isEmpty = true ∧ ¬ (a = 37 ∨ a = 49 ∨ a = 62) ∧ ¬ (a = 31 ∨ (74 ≤ a ∧ a < 110 ∧ (a - 74) % 6 = 0)) ∧ ¬ (110 ≤ a ∧ a < 122 ∧ a % 2 = 0) ∧ ¬ a = 122 := by
  obtain ⟨a1, a2⟩ := ar_0a a h g
  obtain ⟨a3, a4⟩ := ar_0b a h g
  obtain ⟨a5, a6⟩ := ar_0c a h g
  exact ⟨a1, by omega, by omega, a5, a6⟩
theorem ar_lt {a : Nat} {x : Nat × Nat} (h : SH[a]? = some x) : a < 170 := by
  obtain ⟨h1, _⟩ := List.getElem?_eq_some_iff.mp h
  have : SH.length = 170 := by decide +kernel
  omega
theorem ar_y {a k n : Nat} (h : SH[a]? = some (k, n)) (hk : 1 ≤ k ∧ k ≤ 3) (g1 : ¬ a = 137) (g2 : ¬ a = 166) : I0 a = (fun _ => 0) ∧ TT Ua Ub a = fun _ => none := by
  have e : arr a = true := by
    unfold arr
    rw [h]
    simp [hk.1, hk.2, g1, g2]
  obtain ⟨z1, z2, z3, z4, z5⟩ := ar_0 (ar_lt h) e
  constructor
  · funext j
    unfold I0
    rw [if_neg z3, if_neg (fun q => z4 ⟨q.1, q.2.1, q.2.2.1⟩), if_neg (fun q => z5 q.1), if_neg g1, if_neg (fun q => g2 q.1)]
  · have w1 : ¬ a = 30 := by
      intro w
      subst w
      exact absurd h (by simp only [show SH[30]? = some (10, 6) from rfl, Option.some.injEq, Prod.mk.injEq]; omega)
    have w2 : ¬ a = 1 := by
      intro w
      subst w
      exact absurd h (by simp only [show SH[1]? = some (6, 6) from rfl, Option.some.injEq, Prod.mk.injEq]; omega)
    show pm_up _ _ _ _ = _
    unfold pm_up
    rw [if_neg w1, if_neg w2]
    funext j
    unfold RR
    rw [if_neg (fun q => z2 q.2), List.isEmpty_iff.mp z1]
    rfl
/-- an object at b is being made: m cells are laid -/
def BLD (Ua Ub : Nat → Option Nat) (e b m : Nat) (ro : Nat → Option Nat) (io : Nat → Int32) (J : pm_I) (M : pm_L) (S : pm_R) (I : pm_I) (L : pm_L) (R : pm_R) : Prop :=
  ((∀ a, 1 ≤ a → ¬ a = e → ¬ a = b → a < m → I a = I0 a ∧ L a = (fun _ => 0) ∧ R a = TT Ua Ub a) ∧ ∀ a, m ≤ a → R a = fun _ => none) ∧ (I b = io ∧ L b = (fun _ => 0) ∧ R b = ro) ∧ ∀ a, a = 0 ∨ a = e → ¬ a = b → I a = J a ∧ L a = M a ∧ R a = S a
variable {J : pm_I} {M : pm_L} {S : pm_R} {e b m : Nat} {ro : Nat → Option Nat} {io : Nat → Int32}
theorem mk_in (c : CN Ua Ub e b I L R) : BLD Ua Ub e b (b + 1) (fun _ => none) (fun _ => 0) I L R I L R := by
  obtain ⟨⟨c1, c2⟩, c3, c4⟩ := c
  exact ⟨⟨fun a h1 h2 h3 h4 => c1 a h1 h2 (by omega), fun a h => c2 a (by omega)⟩, ⟨c3, c4, c2 b (Nat.le_refl _)⟩, fun a _ _ => ⟨rfl, rfl, rfl⟩⟩
/-- an array more, and its field -/
theorem mk_ar {F k n : Nat} (hb : b < m) (he : e < m) (hm : SH[m]? = some (k, n)) (hk : 1 ≤ k ∧ k ≤ 3) (g1 : ¬ m = 137) (g2 : ¬ m = 166) (q : BLD Ua Ub e b m ro io J M S I L R) :
    BLD Ua Ub e b (m + 1) (pm_up ro F (some m)) io J M S (pm_up I m fun _ => 0) (pm_up L m fun _ => 0) (pm_up (pm_up R m fun _ => none) b (pm_up (pm_up R m (fun _ => none) b) F (some m))) := by
  obtain ⟨x, y⟩ := ar_y (Ua := Ua) (Ub := Ub) hm hk g1 g2
  obtain ⟨⟨c1, c2⟩, ⟨c3, c4, c5⟩, c6⟩ := q
  have n1 : ¬ b = m := by omega
  refine ⟨⟨fun a h1 h2 h3 h4 => ?_, fun a h => ?_⟩, ⟨?_, ?_, ?_⟩, fun a h1 h2 => ?_⟩
  · by_cases z : a = m
    · subst z
      simp [pm_up, x, y, h3]
    · simp [pm_up, z, h3]
      exact c1 a h1 h2 h3 (by omega)
  · have n2 : ¬ a = b := by omega
    have n3 : ¬ a = m := by omega
    simp [pm_up, n2, n3]
    exact c2 a (by omega)
  · simp [pm_up, n1, c3]
  · simp [pm_up, n1, c4]
  · simp [pm_up, n1, c5]
  · have n3 : ¬ a = m := by omega
    simp [pm_up, n3, h2]
    exact c6 a h1 h2
theorem mk_i {F : Nat} {v : Int32} (q : BLD Ua Ub e b m ro io J M S I L R) : BLD Ua Ub e b m ro (pm_up io F v) J M S (pm_up I b (pm_up (I b) F v)) L R := by
  obtain ⟨c1, ⟨c3, c4, c5⟩, c6⟩ := q
  refine ⟨⟨fun a h1 h2 h3 h4 => ?_, c1.2⟩, ⟨?_, c4, c5⟩, fun a h1 h2 => ?_⟩
  · simp [pm_up, h3]
    exact c1.1 a h1 h2 h3 h4
  · simp [pm_up, c3]
  · simp [pm_up, h2]
    exact c6 a h1 h2
theorem mk_r {F : Nat} {v : Option Nat} (hb : b < m) (q : BLD Ua Ub e b m ro io J M S I L R) : BLD Ua Ub e b m (pm_up ro F v) io J M S I L (pm_up R b (pm_up (R b) F v)) := by
  obtain ⟨c1, ⟨c3, c4, c5⟩, c6⟩ := q
  refine ⟨⟨fun a h1 h2 h3 h4 => ?_, fun a h => ?_⟩, ⟨c3, c4, ?_⟩, fun a h1 h2 => ?_⟩
  · simp [pm_up, h3]
    exact c1.1 a h1 h2 h3 h4
  · have : ¬ a = b := by omega
    simp [pm_up, this]
    exact c1.2 a h
  · simp [pm_up, c5]
  · simp [pm_up, h2]
    exact c6 a h1 h2
theorem mk_out (h0 : ¬ b = 0) (h1 : ¬ b = e) (g1 : io = I0 b) (g2 : ro = TT Ua Ub b) (q : BLD Ua Ub e b m ro io J M S I L R) : CF Ua Ub e m I L R ∧ ∀ a, a = 0 ∨ a = e → I a = J a ∧ L a = M a ∧ R a = S a := by
  obtain ⟨⟨c1, c2⟩, ⟨c3, c4, c5⟩, c6⟩ := q
  refine ⟨⟨fun a j1 j2 j3 => ?_, c2⟩, fun a ha => c6 a ha (by omega)⟩
  by_cases z : a = b
  · subst z
    exact ⟨c3.trans g1, c4, c5.trans g2⟩
  · exact c1 a j1 j2 z j3
/-- the same, in a run -/
theorem sk_ar {F k n mi pc c z m' : Nat} {l : pm_l} {st : List Value} {sh : pm_S} (q : BLD Ua Ub e b m ro io J M S I L R) (hb : b < m) (he : e < m) (hm : SH[m]? = some (k, n)) (hk : 1 ≤ k ∧ k ≤ 3) (g1 : ¬ m = 137) (g2 : ¬ m = 166) (hm' : m + 1 = m')
    (h : ∀ I L R, BLD Ua Ub e b m' (pm_up ro F (some m)) io J M S I L R → pm_wp X d mi pc l st c z sh I L R Q) : pm_wp X d mi pc l st c z sh (pm_up I m fun _ => 0) (pm_up L m fun _ => 0) (pm_up (pm_up R m fun _ => none) b (pm_up (pm_up R m (fun _ => none) b) F (some m))) Q := h _ _ _ (hm' ▸ mk_ar hb he hm hk g1 g2 q)
theorem sk_i {F mi pc c z : Nat} {v : Int32} {l : pm_l} {st : List Value} {sh : pm_S} (q : BLD Ua Ub e b m ro io J M S I L R)
    (h : ∀ I L R, BLD Ua Ub e b m ro (pm_up io F v) J M S I L R → pm_wp X d mi pc l st c z sh I L R Q) : pm_wp X d mi pc l st c z sh (pm_up I b (pm_up (I b) F v)) L R Q := h _ _ _ (mk_i q)
theorem mx_0 : ∀ N, N < 11 → (if (0 : Int32) < nI N then nI N else 0) = nI N := by decide +kernel
theorem le_0 : ∀ N, N < 11 → (0 : Int32) ≤ nI N := by decide +kernel
theorem w_x44 {b e N : Nat} (hN : N < 11) (hb : b < 160) (hb1 : 1 ≤ b) (hq : b + 3 < 137) (he : e < b) (h0 : SH[b]? = some (0, 4)) (h1 : SH[b + 1]? = some (1, N)) (h2 : SH[b + 2]? = some (1, N)) (h3 : SH[b + 3]? = some (1, N)) (c : CN Ua Ub e b I L R)
    (x0 : (fun _ => 0) = I0 b) (y0 : pm_up (pm_up (pm_up (fun _ => none) 1 (some (b + 1))) 2 (some (b + 2))) 3 (some (b + 3)) = TT Ua Ub b)
    (h : ∀ (I' : pm_I) (L' : pm_L) (R' : pm_R), CF Ua Ub e (b + 4) I' L' R' → (∀ a, a = 0 ∨ a = e → I' a = I a ∧ L' a = L a ∧ R' a = R a) → Q none (SH.take (b + 4)) I' L' R') : pm_wp X (d + 1) 44 0 [(0, .ref b), (1, .int (nI N))] [] 0 0 (SH.take (b + 1)) I L R Q := by
  have e0 : (SH.take (b + 1))[b]? = some (0, 4) := (sh_at (by omega)).trans h0
  have e1 : (SH.take (b + 2))[b]? = some (0, 4) := (sh_at (by omega)).trans h0
  have e2 : (SH.take (b + 3))[b]? = some (0, 4) := (sh_at (by omega)).trans h0
  have e3 : (SH.take (b + 4))[b]? = some (0, 4) := (sh_at (by omega)).trans h0
  have l1 : (SH.take (b + 1)).length = b + 1 := sh_ln (by omega)
  have l2 : (SH.take (b + 2)).length = b + 2 := sh_ln (by omega)
  have l3 : (SH.take (b + 3)).length = b + 3 := sh_ln (by omega)
  have l4 : (SH.take (b + 4)).length = b + 4 := sh_ln (by omega)
  have t1 : SH.take (b + 1) ++ [(1, N)] = SH.take (b + 2) := sh_tk h1
  have t2 : SH.take (b + 2) ++ [(1, N)] = SH.take (b + 3) := sh_tk h2
  have t3 : SH.take (b + 3) ++ [(1, N)] = SH.take (b + 4) := sh_tk h3
  have cN : (nI N).toNatClampNeg = N := nI_clamp (by omega)
  have z := le_0 N hN
  have m0 := mx_0 N hN
  refine pm_gos (n := 60) (stops := []) ?_
  simp only [st_iload_n, st_iload, st_lload_n, st_aload_n, st_aload, st_istore_n, st_istore, st_astore_n, st_astore, st_iconst, st_bipush, st_sipush, st_lconst, st_ldc, st_ldc_w, st_ldc2_w, st_getfield, st_putfieldI, st_putfieldR, st_getstatic, st_iaload, st_iastore, st_baload, st_bastore, st_laload, st_lastore, st_aaload, st_aastore, st_arraylength, st_iadd, st_isub, st_imul, st_iand, st_ior, st_ixor, st_ishl, st_ishr, st_idiv, st_irem, st_ineg, st_land, st_lor, st_lshl, st_i2l, st_l2i, st_i2b, st_i2s, st_i2c, st_lcmp, st_iinc, st_dupI, st_dupR, st_dup2, st_pop, st_goto, st_if_eq, st_icmp_eq, st_if_ne, st_icmp_ne, st_if_lt, st_icmp_lt, st_if_ge, st_icmp_ge, st_if_gt, st_icmp_gt, st_if_le, st_icmp_le, st_tsw, st_lsw, st_newarray, st_anewarray, st_new, st_invokevirtual, st_invokespecial, oin_ref, st_static, st_max, st_min, st_abs, st_copyi, st_copyl, st_ireturn, st_lreturn, st_areturn, st_return, rn_succ, inl_nil, inl_cons, rno_some, oi_some, ol_some, or_some, lk_cons, ins_nil, ins_cons, rm_nil, rm_int, rm_ref, rm_long, pop_0, pop_1, pop_2, pop_3, pop_4, pop_5, pop_6, la_nil, la_int, la_ref, la_long, cat_nil, cat_int, cat_ref, cat_long, call_succ, cont_some, cont_none, rcv_0, rcv_1, rcv_2, rcv_3, rcv_4, rcv_5, rcv_6, rcv_7, rcv_8, rcv_s, rf_some, ret_0, ret_10, ret_11, ret_ite, ite_0, sw_nil, sw_cons, ln_some, isk_some, al_some, ↓reduceIte, Nat.reduceAdd, Nat.reduceEqDiff, Nat.reduceLeDiff, Nat.reduceLT, Int32.reduceLT, Int32.reduceLE, Int32.reduceToNatClampNeg, Int32.reduceOfNat, Int32.reduceAdd, Int32.reduceSub, Int.reduceEq, Int.reduceNeg, Int.reduceLT, Int32.reduceOfInt, Int64.reduceOfInt, Bool.false_eq_true, true_and, and_true, eq_self, not_true_eq_false, not_false_eq_true, false_imp_iff, true_imp_iff, forall_const, or_true, true_or, ne_eq, Nat.zero_add, Nat.add_zero, Nat.le_refl, reduceCtorEq, Ft44, e0, e1, e2, e3, l1, l2, l3, l4, t1, t2, t3, m0, cN]
  have hc : pm_cst 44 = (3, 30) := by decide
  have sl : ∀ m, b < m → pm_scl m [(0, .ref b), (1, .int (nI N)), (2, .int (nI N))] := fun m hm => scl_r hm (scl_i (scl_i scl_n))
  refine ⟨by unfold pm_nf3; omega, z, rm_g (by omega) (by rw [hc]; decide) (by rw [hc]; show 0 + N ≤ 30; omega) (by omega) (sl _ (by omega)) (scv_r (by omega) scv_n), by omega, z, rm_g (by omega) (by rw [hc]; decide) (by rw [hc]; show N + N ≤ 30; omega) (by omega) (sl _ (by omega)) (scv_r (by omega) scv_n), by omega, z, rm_g (by omega) (by rw [hc]; decide) (by rw [hc]; show N + N + N ≤ 30; omega) (by omega) (sl _ (by omega)) (scv_r (by omega) scv_n), by omega, ?_⟩
  have q := mk_ar (F := 3) (by omega) (by omega) h3 (by decide) (by omega) (by omega) (mk_ar (F := 2) (by omega) (by omega) h2 (by decide) (by omega) (by omega) (mk_ar (F := 1) (by omega) (by omega) h1 (by decide) (by omega) (by omega) (mk_i (F := 0) (v := 0) (mk_in c))))
  obtain ⟨q1, q2⟩ := mk_out (by omega) (by omega) (by rw [up_0]; exact x0) y0 q
  exact h _ _ _ q1 q2
end MAKE
