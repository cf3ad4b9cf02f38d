/-! kitchens: what of a clause holds, MORE -/
/-! rows on bits, shifts and unsigned numbers, to paste: each family out of a closed proof of our own, whole with what it rests on; each by itself clean at Lean in its own claim (generation 39, form 5). Take a family whole -/
/-! ===== Int32 by its bits: bt x i ===== -/
def bt (x : Int32) (i : Nat) : Bool := x.toBitVec.getLsbD i
theorem b_ext {x y : Int32} (h : ∀ i, i < 32 → bt x i = bt y i) : x = y := Int32.toBitVec_inj.mp (BitVec.eq_of_getLsbD_eq (fun i hi => h i hi))
theorem b_or (x y : Int32) (i : Nat) : bt (x ||| y) i = (bt x i || bt y i) := by unfold bt; rw [Int32.toBitVec_or, BitVec.getLsbD_or]
theorem b_and (x y : Int32) (i : Nat) : bt (x &&& y) i = (bt x i && bt y i) := by unfold bt; rw [Int32.toBitVec_and, BitVec.getLsbD_and]
theorem b_xor (x y : Int32) (i : Nat) : bt (x ^^^ y) i = (bt x i ^^ bt y i) := by unfold bt; rw [Int32.toBitVec_xor, BitVec.getLsbD_xor]
theorem b_big {x : Int32} {i : Nat} (h : 32 ≤ i) : bt x i = false := BitVec.getLsbD_of_ge _ _ h
theorem b_255 (i : Nat) : bt 255 i = decide (i < 8) := by
  rcases Nat.lt_or_ge i 32 with h | h
  · exact (by decide +kernel : ∀ i, i < 32 → bt 255 i = decide (i < 8)) i h
  · rw [b_big h, decide_eq_false (by omega)]
theorem b_65535 (i : Nat) : bt 65535 i = decide (i < 16) := by
  rcases Nat.lt_or_ge i 32 with h | h
  · exact (by decide +kernel : ∀ i, i < 32 → bt 65535 i = decide (i < 16)) i h
  · rw [b_big h, decide_eq_false (by omega)]
theorem b_m1 : ∀ i, i < 32 → bt (-1) i = true := by decide +kernel
theorem b_0 (i : Nat) : bt 0 i = false := BitVec.getLsbD_zero
theorem s_l : ∀ n, n < 32 → ((nI n &&& 31).toBitVec.smod 32).toNat = n := by decide +kernel
theorem s_u : ∀ n, n < 32 → (((nI n).toUInt32 &&& Int32.toUInt32 31).toBitVec % 32).toNat = n := by decide +kernel
theorem b_shl (n : Nat) (hn : n < 32) (x : Int32) {i : Nat} (hi : i < 32) : bt (x <<< (nI n &&& 31)) i = (decide (n ≤ i) && bt x (i - n)) := by
  unfold bt
  rw [Int32.toBitVec_shiftLeft]
  show (x.toBitVec <<< ((nI n &&& 31).toBitVec.smod 32).toNat).getLsbD i = _
  rw [s_l n hn, BitVec.getLsbD_shiftLeft]
  rcases Nat.lt_or_ge i n with h | h
  · simp [h, Nat.not_le.mpr h]
  · simp [hi, h, Nat.not_lt.mpr h]
theorem b_ushr (n : Nat) (hn : n < 32) (x : Int32) (i : Nat) : bt ((x.toUInt32 >>> ((nI n).toUInt32 &&& Int32.toUInt32 31)).toInt32) i = bt x (n + i) := by
  show (x.toUInt32 >>> ((nI n).toUInt32 &&& Int32.toUInt32 31)).toBitVec.getLsbD i = x.toUInt32.toBitVec.getLsbD (n + i)
  rw [UInt32.toBitVec_shiftRight]
  show (x.toUInt32.toBitVec >>> (((nI n).toUInt32 &&& Int32.toUInt32 31).toBitVec % 32).toNat).getLsbD i = _
  rw [s_u n hn, BitVec.getLsbD_ushiftRight]
theorem b_sshr (n : Nat) (hn : n < 32) (x : Int32) {i : Nat} (hi : i < 32) : bt (x >>> (nI n &&& 31)) i = if n + i < 32 then bt x (n + i) else bt x 31 := by
  unfold bt
  rw [Int32.toBitVec_shiftRight]
  show (x.toBitVec.sshiftRight ((nI n &&& 31).toBitVec.smod 32).toNat).getLsbD i = _
  rw [s_l n hn, BitVec.getLsbD_sshiftRight, BitVec.msb_eq_getLsbD_last]
  simp [hi]
theorem b_one : ∀ i, i < 32 → bt 1 i = decide (i = 0) := by decide +kernel
theorem b_m2 : ∀ i, i < 32 → bt (-2) i = !decide (i = 0) := by decide +kernel
theorem b_and1 {x : Int32} : x &&& 1 = 1 ↔ bt x 0 = true := by
  constructor
  · intro h
    have h1 := b_and x 1 0
    rw [h, b_one 0 (by omega)] at h1
    simpa using h1.symm
  · intro h
    apply b_ext
    intro i hi
    rw [b_and, b_one i hi]
    by_cases h0 : i = 0
    · subst h0; simp [h]
    · simp [h0]
theorem b_sh1 (x : Int32) {i : Nat} (hi : i + 1 < 32) : bt (x >>> ((1 : Int32) &&& 31)) i = bt x (i + 1) := by
  have h := b_sshr 1 (by omega) x (i := i) (by omega)
  rw [if_pos (by omega), Nat.add_comm] at h
  exact h
theorem b_sl1 (x : Int32) {i : Nat} (hi : i < 32) : bt (x <<< ((1 : Int32) &&& 31)) i = (decide (1 ≤ i) && bt x (i - 1)) := b_shl 1 (by omega) x hi
/-- the open parts of a condition, as bits -/
def bI (b : Bool) : Int32 := match b with
  | true => 1
  | false => 0
theorem bI_0 {b : Bool} : (bI b = 0) = (b = false) := by
  cases b <;> simp [bI]
theorem ret_bI {b : Bool} : pm_ret 1 (bI b) = True := by
  cases b <;> simp [bI, pm_ret]
def BI (x : Int32) (s : List Bool) : Prop := s.length ≤ 30 ∧ ∀ j b, s[j]? = some b → bt x j = b
abbrev mk : Type := Int32 × Int32 × Int32
def cmpC (n r o : Int32) : Prop := if r = 60 then n < o else if r = 62 then o < n else n = o
def letC (w : Vw) (x : Int32) (i : Nat) : Int32 := if x = 99 then w 5 i / 10 else if x = 107 then w 1 i else if x = 108 then w 4 i / 10 else if x = 112 then nI i else if x = 118 then w 2 i else w 0 8 % 10
noncomputable def cmB (n r o : Int32) : Bool := @decide (cmpC n r o) (Classical.propDecidable _)
def evN (s : List Bool) : List Bool := match s with
  | a :: s => (!a) :: s
  | [] => []
def evA (s : List Bool) : List Bool := match s with
  | a :: b :: s => (b && a) :: s
  | s => s
def evO (s : List Bool) : List Bool := match s with
  | a :: b :: s => (b || a) :: s
  | s => s
noncomputable def evM (w : Vw) (i : Nat) (s : List Bool) (m : mk) : List Bool :=
  if m.1 = 33 then evN s else if m.1 = 38 then evA s else if m.1 = 124 then evO s else cmB (letC w m.1 i) m.2.1 m.2.2 :: s
noncomputable def evL (w : Vw) (i : Nat) : List Bool → List mk → List Bool
  | s, [] => s
  | s, m :: ms => evL w i (evM w i s m) ms
/-- how deep the open parts are -/
def dpM (d : Nat) (m : mk) : Option Nat :=
  if m.1 = 33 then (if 1 ≤ d then some d else none) else if m.1 = 38 ∨ m.1 = 124 then (if 2 ≤ d then some (d - 1) else none) else if d < 30 then some (d + 1) else none
def dpL : Nat → List mk → Option Nat
  | d, [] => some d
  | d, m :: ms => (dpM d m).bind (fun e => dpL e ms)
def topB (s : List Bool) : Bool := match s with
  | b :: _ => b
  | [] => false
theorem BI_not {x : Int32} {s : List Bool} (h : BI x s) : BI (x ^^^ 1) (evN s) := by
  obtain ⟨hl, h⟩ := h
  cases s with
  | nil => exact ⟨hl, fun j b hj => by simp [evN] at hj⟩
  | cons a s =>
    refine ⟨hl, fun j b hj => ?_⟩
    have hj32 : j < 32 := by
      have := (List.getElem?_eq_some_iff.mp hj).1
      simp [evN] at this hl
      omega
    rw [b_xor, b_one j hj32]
    cases j with
    | zero =>
      have h0 := h 0 a rfl
      simp [evN] at hj
      simp [h0, hj]
    | succ j =>
      have h0 := h (j + 1) b hj
      simp [h0]
theorem BI_and {x : Int32} {a b : Bool} {s : List Bool} (h : BI x (a :: b :: s)) : BI (if x &&& 1 = 1 then x >>> ((1 : Int32) &&& 31) else (x >>> ((1 : Int32) &&& 31)) &&& -2) (evA (a :: b :: s)) := by
  obtain ⟨hl, h⟩ := h
  simp only [List.length_cons] at hl
  have h0 := h 0 a rfl
  have h1 := h 1 b rfl
  refine ⟨by simp [evA]; omega, fun j c hj => ?_⟩
  have hj32 : j + 1 < 32 := by
    have := (List.getElem?_eq_some_iff.mp hj).1
    simp [evA] at this
    omega
  by_cases ha : x &&& 1 = 1
  · rw [if_pos ha, b_sh1 x hj32]
    have ha' := b_and1.mp ha
    rw [ha'] at h0
    cases j with
    | zero => simp [evA, ← h0] at hj; rw [h1, hj]
    | succ j => exact h (j + 2) c hj
  · rw [if_neg ha, b_and, b_sh1 x hj32, b_m2 j (by omega)]
    have ha' : bt x 0 = false := by
      cases hx : bt x 0 with
      | false => rfl
      | true => exact absurd (b_and1.mpr hx) ha
    rw [ha'] at h0
    cases j with
    | zero => simp [evA, ← h0] at hj; simp [hj]
    | succ j => simp [h (j + 2) c hj]
theorem BI_or {x : Int32} {a b : Bool} {s : List Bool} (h : BI x (a :: b :: s)) : BI ((x >>> ((1 : Int32) &&& 31)) ||| (x &&& 1)) (evO (a :: b :: s)) := by
  obtain ⟨hl, h⟩ := h
  simp only [List.length_cons] at hl
  have h0 := h 0 a rfl
  have h1 := h 1 b rfl
  refine ⟨by simp [evO]; omega, fun j c hj => ?_⟩
  have hj32 : j + 1 < 32 := by
    have := (List.getElem?_eq_some_iff.mp hj).1
    simp [evO] at this
    omega
  rw [b_or, b_and, b_sh1 x hj32, b_one j (by omega)]
  cases j with
  | zero => simp [evO] at hj; simp [h0, h1, hj]
  | succ j => simp [h (j + 2) c hj]
theorem BI_push {x : Int32} {s : List Bool} (b : Bool) (hd : s.length < 30) (h : BI x s) : BI ((x <<< ((1 : Int32) &&& 31)) ||| bI b) (b :: s) := by
  obtain ⟨hl, h⟩ := h
  refine ⟨by simp; omega, fun j c hj => ?_⟩
  have hj32 : j < 32 := by
    have := (List.getElem?_eq_some_iff.mp hj).1
    simp at this
    omega
  have hb : bt (bI b) j = (b && decide (j = 0)) := by
    cases b with
    | false => simp [b_0, bI]
    | true => simp [b_one j hj32, bI]
  rw [b_or, b_sl1 x hj32, hb]
  cases j with
  | zero => simp at hj; simp [hj]
  | succ j => simp at hj; simp [h j c hj]
theorem i3833 : ((38 : Int32) = 33) = False := by decide
theorem i12433 : ((124 : Int32) = 33) = False := by decide
theorem i12438 : ((124 : Int32) = 38) = False := by decide
section PLK
variable {X : pm_X} {d : Nat} {I : pm_I} {L : pm_L} {Q : pm_Q} {K : Nat → Nat} {t q : Nat} {sh : pm_S} {R : pm_R}
theorem w_compares {n r o : Int32} (h : Q (some (.int (bI (cmB n r o)))) sh I L R) : pm_wp X d 28 0 [(0, .int n), (1, .int r), (2, .int o)] [] 0 0 sh I L R Q := by
  have hd : cmB n r o = true ↔ cmpC n r o := by unfold cmB; simp
  have hy : cmpC n r o → Q (some (.int 1)) sh I L R := fun q => by rw [hd.mpr q] at h; exact h
  have hn : ¬ cmpC n r o → Q (some (.int 0)) sh I L R := fun q => by
    have e : cmB n r o = false := by
      cases hc : cmB n r o with
      | false => rfl
      | true => exact absurd (hd.mp hc) q
    rw [e] at h
    exact h
  unfold cmpC at hy hn
  refine pm_run_wp (n := 40) (stops := []) ?_
  simp only [st_iload_n, st_iload, st_lload_n, st_aload_n, st_aload, st_istore_n, st_istore, st_astore_n, st_astore, st_iconst, st_bipush, st_sipush, st_lconst, st_ldc, st_ldc_w, st_ldc2_w, st_getfield, st_putfieldI, st_putfieldR, st_getstatic, st_iaload, st_iastore, st_baload, st_bastore, st_laload, st_lastore, st_aaload, st_aastore, st_arraylength, st_iadd, st_isub, st_imul, st_iand, st_ior, st_ixor, st_ishl, st_ishr, st_idiv, st_irem, st_ineg, st_land, st_lor, st_lshl, st_i2l, st_l2i, st_i2b, st_i2s, st_i2c, st_lcmp, st_iinc, st_dupI, st_dupR, st_dup2, st_pop, st_goto, st_if_eq, st_icmp_eq, st_if_ne, st_icmp_ne, st_if_lt, st_icmp_lt, st_if_ge, st_icmp_ge, st_if_gt, st_icmp_gt, st_if_le, st_icmp_le, st_tsw, st_lsw, st_newarray, st_anewarray, st_new, st_invokevirtual, st_invokespecial, oin_ref, st_static, st_max, st_min, st_abs, st_copyi, st_copyl, st_ireturn, st_lreturn, st_areturn, st_return, rn_succ, inl_nil, inl_cons, rno_some, oi_some, ol_some, or_some, lk_cons, ins_nil, ins_cons, rm_nil, rm_int, rm_ref, rm_long, pop_0, pop_1, pop_2, pop_3, pop_4, pop_5, pop_6, la_nil, la_int, la_ref, la_long, cat_nil, cat_int, cat_ref, cat_long, call_succ, cont_some, cont_none, rcv_0, rcv_1, rcv_2, rcv_3, rcv_4, rcv_5, rcv_6, rcv_7, rcv_8, rcv_s, rf_some, ret_0, ret_10, ret_11, ret_ite, ite_0, sw_nil, sw_cons, ln_some, isk_some, al_some, ↓reduceIte, Nat.reduceAdd, Nat.reduceEqDiff, Nat.reduceLeDiff, Nat.reduceLT, Int32.reduceLT, Int32.reduceLE, Int32.reduceToNatClampNeg, Int32.reduceOfNat, Int32.reduceAdd, Int32.reduceSub, Int.reduceEq, Int.reduceNeg, Int.reduceLT, Int32.reduceOfInt, Int64.reduceOfInt, Bool.false_eq_true, true_and, and_true, eq_self, not_true_eq_false, not_false_eq_true, false_imp_iff, true_imp_iff, forall_const, or_true, true_or, ne_eq, Nat.zero_add, Nat.add_zero, Nat.le_refl, reduceCtorEq, Ft28]
  refine ⟨fun h1 => ⟨fun h2 => ⟨fun h3 => ?_, fun h3 => ?_⟩, fun h2 => ⟨fun h3 => ?_, fun h3 => ?_⟩⟩, fun h1 => ⟨fun h2 => ?_, fun h2 => ?_⟩⟩
  · exact hn (by rw [if_neg h1, if_neg h2]; exact h3)
  · exact hy (by rw [if_neg h1, if_neg h2]; exact Decidable.not_not.mp h3)
  · exact hn (by rw [if_neg h1, if_pos (Decidable.not_not.mp h2)]; exact Int32.not_lt.mpr h3)
  · exact hy (by rw [if_neg h1, if_pos (Decidable.not_not.mp h2)]; exact Int32.not_le.mp h3)
  · exact hn (by rw [if_pos (Decidable.not_not.mp h1)]; exact Int32.not_lt.mpr h2)
  · exact hy (by rw [if_pos (Decidable.not_not.mp h1)]; exact Int32.not_le.mp h2)
theorem w_letterOf {x : Int32} {i : Nat} (ht : isT t) (hi : i < 6) (h : Q (some (.int (letC (tw I t) x i))) SH I L (RR K)) : pm_wp X d 68 0 [(0, .ref t), (1, .int x), (2, .int (nI i))] [] 0 0 SH I L (RR K) Q := by
  have T := isTF (K := K) ht
  have hv : vp_in (nI i) 6 := vi (by omega) (by omega)
  have hc : (nI i).toNatClampNeg = i := nI_clamp (by omega)
  have h10 : ¬ (10 : Int32) = 0 := by decide
  refine pm_run_wp (n := 40) (stops := []) ?_
  simp only [st_iload_n, st_iload, st_lload_n, st_aload_n, st_aload, st_istore_n, st_istore, st_astore_n, st_astore, st_iconst, st_bipush, st_sipush, st_lconst, st_ldc, st_ldc_w, st_ldc2_w, st_getfield, st_putfieldI, st_putfieldR, st_getstatic, st_iaload, st_iastore, st_baload, st_bastore, st_laload, st_lastore, st_aaload, st_aastore, st_arraylength, st_iadd, st_isub, st_imul, st_iand, st_ior, st_ixor, st_ishl, st_ishr, st_idiv, st_irem, st_ineg, st_land, st_lor, st_lshl, st_i2l, st_l2i, st_i2b, st_i2s, st_i2c, st_lcmp, st_iinc, st_dupI, st_dupR, st_dup2, st_pop, st_goto, st_if_eq, st_icmp_eq, st_if_ne, st_icmp_ne, st_if_lt, st_icmp_lt, st_if_ge, st_icmp_ge, st_if_gt, st_icmp_gt, st_if_le, st_icmp_le, st_tsw, st_lsw, st_newarray, st_anewarray, st_new, st_invokevirtual, st_invokespecial, oin_ref, st_static, st_max, st_min, st_abs, st_copyi, st_copyl, st_ireturn, st_lreturn, st_areturn, st_return, rn_succ, inl_nil, inl_cons, rno_some, oi_some, ol_some, or_some, lk_cons, ins_nil, ins_cons, rm_nil, rm_int, rm_ref, rm_long, pop_0, pop_1, pop_2, pop_3, pop_4, pop_5, pop_6, la_nil, la_int, la_ref, la_long, cat_nil, cat_int, cat_ref, cat_long, call_succ, cont_some, cont_none, rcv_0, rcv_1, rcv_2, rcv_3, rcv_4, rcv_5, rcv_6, rcv_7, rcv_8, rcv_s, rf_some, ret_0, ret_10, ret_11, ret_ite, ite_0, sw_nil, sw_cons, ln_some, isk_some, al_some, ↓reduceIte, Nat.reduceAdd, Nat.reduceEqDiff, Nat.reduceLeDiff, Nat.reduceLT, Int32.reduceLT, Int32.reduceLE, Int32.reduceToNatClampNeg, Int32.reduceOfNat, Int32.reduceAdd, Int32.reduceSub, Int.reduceEq, Int.reduceNeg, Int.reduceLT, Int32.reduceOfInt, Int64.reduceOfInt, Bool.false_eq_true, true_and, and_true, eq_self, not_true_eq_false, not_false_eq_true, false_imp_iff, true_imp_iff, forall_const, or_true, true_or, ne_eq, Nat.zero_add, Nat.add_zero, Nat.le_refl, reduceCtorEq, Ft68, T, hv, hc, h10]
  unfold letC tw at h
  simp only [Nat.add_zero] at h
  refine ⟨fun h1 => ?_, fun h1 => ⟨fun h2 => ?_, fun h2 => ⟨fun h3 => ?_, fun h3 => ⟨fun h4 => ?_, fun h4 => ⟨fun h5 => ?_, fun h5 => ?_⟩⟩⟩⟩⟩
  · rw [if_pos h1] at h; exact h
  · rw [if_neg h1, if_pos h2] at h; exact h
  · rw [if_neg h1, if_neg h2, if_pos h3] at h; exact h
  · rw [if_neg h1, if_neg h2, if_neg h3, if_pos h4] at h; exact h
  · rw [if_neg h1, if_neg h2, if_neg h3, if_neg h4, if_pos h5] at h; exact h
  · rw [if_neg h1, if_neg h2, if_neg h3, if_neg h4, if_neg h5] at h; exact h
theorem ite_1 {p : Prop} [Decidable p] : ((if p then (1 : Int32) else 0) = 0) = ¬ p := by
  by_cases h : p <;> simp [h]
/-- the marks of a kitchen, from one on -/
def mkA (I : pm_I) (q m : Nat) : mk := (I (q + 3) m, I (q + 4) m, I (q + 5) m)
theorem dpM_len {w : Vw} {i : Nat} {s : List Bool} {m : mk} {e : Nat} (h : dpM s.length m = some e) : (evM w i s m).length = e := by
  unfold dpM at h
  unfold evM
  split at h
  next h1 =>
    rw [if_pos h1]
    split at h
    · cases h; cases s <;> rfl
    · cases h
  next h1 =>
    rw [if_neg h1]
    split at h
    next h2 =>
      split at h
      next h3 =>
        cases h
        match s, h3 with
        | a :: b :: s, _ =>
          by_cases h4 : m.1 = 38
          · rw [if_pos h4]; rfl
          · rw [if_neg h4, if_pos (h2.resolve_left h4)]; rfl
      next => cases h
    next h2 =>
      rw [if_neg (fun q => h2 (Or.inl q)), if_neg (fun q => h2 (Or.inr q))]
      split at h
      · cases h; rfl
      · cases h
theorem w_isSo {n i fr to : Nat} {ms : List mk} (ht : isT t) (hq : isK q) (hi : i < 6) (hto : to ≤ 100) (hlen : fr + ms.length = to) (hms : ∀ j m, ms[j]? = some m → mkA I q (fr + j) = m) (hd : dpL 0 ms = some 1)
    (h : Q (some (.int (bI (topB (evL (tw I t) i [] ms))))) SH I L (RR K)) : pm_wp X (d + 1) 27 0 [(0, .ref q), (1, .ref t), (2, .int (nI i)), (3, .int (nI fr)), (4, .int (nI to))] [] 0 0 SH I L (RR K) Q := by
  have T := isTF (K := K) ht
  have Kf := isKF (K := K) hq
  have loop : ∀ (ms : List mk) (k : Nat) (s : List Bool) (x : Int32) (o : pm_l), k + ms.length = to → (o = [] ∨ ∃ a b, o = [(7, .int a), (8, .int b)]) → (∀ j m, ms[j]? = some m → mkA I q (k + j) = m) → BI x s → dpL s.length ms = some 1 → Q (some (.int (bI (topB (evL (tw I t) i s ms))))) SH I L (RR K) → (o = [] → s = []) →
      pm_wp X (d + 1) 27 6 ([(0, .ref q), (1, .ref t), (2, .int (nI i)), (3, .int (nI fr)), (4, .int (nI to)), (5, .int x), (6, .int (nI k))] ++ o) [] 0 0 SH I L (RR K) Q := by
    intro ms
    induction ms with
    | nil =>
      intro k s x o hk ho hm hB hd h _
      obtain rfl : k = to := by simpa using hk
      have hs1 : s.length = 1 := by simpa [dpL] using hd
      obtain ⟨b, rfl⟩ : ∃ b, s = [b] := by
        match s, hs1 with
        | [b], _ => exact ⟨b, rfl⟩
      have hb := hB.2 0 b rfl
      have fin : (x &&& 1 = 1 → Q (some (.int 1)) SH I L (RR K)) ∧ (¬ x &&& 1 = 1 → Q (some (.int 0)) SH I L (RR K)) := by
        simp only [evL, topB] at h
        refine ⟨fun h1 => ?_, fun h1 => ?_⟩
        · rw [b_and1, hb] at h1; rw [h1] at h; exact h
        · rw [b_and1, hb] at h1
          cases b with
          | true => exact absurd rfl h1
          | false => exact h
      rcases ho with rfl | ⟨a, b2, rfl⟩
      · refine pm_gos (n := 60) (stops := [6]) ?_
        simp only [st_iload_n, st_iload, st_lload_n, st_aload_n, st_aload, st_istore_n, st_istore, st_astore_n, st_astore, st_iconst, st_bipush, st_sipush, st_lconst, st_ldc, st_ldc_w, st_ldc2_w, st_getfield, st_putfieldI, st_putfieldR, st_getstatic, st_iaload, st_iastore, st_baload, st_bastore, st_laload, st_lastore, st_aaload, st_aastore, st_arraylength, st_iadd, st_isub, st_imul, st_iand, st_ior, st_ixor, st_ishl, st_ishr, st_idiv, st_irem, st_ineg, st_land, st_lor, st_lshl, st_i2l, st_l2i, st_i2b, st_i2s, st_i2c, st_lcmp, st_iinc, st_dupI, st_dupR, st_dup2, st_pop, st_goto, st_if_eq, st_icmp_eq, st_if_ne, st_icmp_ne, st_if_lt, st_icmp_lt, st_if_ge, st_icmp_ge, st_if_gt, st_icmp_gt, st_if_le, st_icmp_le, st_tsw, st_lsw, st_newarray, st_anewarray, st_new, st_invokevirtual, st_invokespecial, oin_ref, st_static, st_max, st_min, st_abs, st_copyi, st_copyl, st_ireturn, st_lreturn, st_areturn, st_return, rn_succ, inl_nil, inl_cons, rno_some, oi_some, ol_some, or_some, lk_cons, ins_nil, ins_cons, rm_nil, rm_int, rm_ref, rm_long, pop_0, pop_1, pop_2, pop_3, pop_4, pop_5, pop_6, la_nil, la_int, la_ref, la_long, cat_nil, cat_int, cat_ref, cat_long, call_succ, cont_some, cont_none, rcv_0, rcv_1, rcv_2, rcv_3, rcv_4, rcv_5, rcv_6, rcv_7, rcv_8, rcv_s, rf_some, ret_0, ret_10, ret_11, ret_ite, ite_0, sw_nil, sw_cons, ln_some, isk_some, al_some, ↓reduceIte, Nat.reduceAdd, Nat.reduceEqDiff, Nat.reduceLeDiff, Nat.reduceLT, Int32.reduceLT, Int32.reduceLE, Int32.reduceToNatClampNeg, Int32.reduceOfNat, Int32.reduceAdd, Int32.reduceSub, Int.reduceEq, Int.reduceNeg, Int.reduceLT, Int32.reduceOfInt, Int64.reduceOfInt, Bool.false_eq_true, true_and, and_true, eq_self, not_true_eq_false, not_false_eq_true, false_imp_iff, true_imp_iff, forall_const, or_true, true_or, ne_eq, Nat.zero_add, Nat.add_zero, Nat.le_refl, reduceCtorEq, Ft27, Int32.le_refl, List.append_nil]
        exact ⟨fun h1 => fin.2 h1, fun h1 => fin.1 (Decidable.not_not.mp h1)⟩
      · refine pm_gos (n := 60) (stops := [6]) ?_
        simp only [st_iload_n, st_iload, st_lload_n, st_aload_n, st_aload, st_istore_n, st_istore, st_astore_n, st_astore, st_iconst, st_bipush, st_sipush, st_lconst, st_ldc, st_ldc_w, st_ldc2_w, st_getfield, st_putfieldI, st_putfieldR, st_getstatic, st_iaload, st_iastore, st_baload, st_bastore, st_laload, st_lastore, st_aaload, st_aastore, st_arraylength, st_iadd, st_isub, st_imul, st_iand, st_ior, st_ixor, st_ishl, st_ishr, st_idiv, st_irem, st_ineg, st_land, st_lor, st_lshl, st_i2l, st_l2i, st_i2b, st_i2s, st_i2c, st_lcmp, st_iinc, st_dupI, st_dupR, st_dup2, st_pop, st_goto, st_if_eq, st_icmp_eq, st_if_ne, st_icmp_ne, st_if_lt, st_icmp_lt, st_if_ge, st_icmp_ge, st_if_gt, st_icmp_gt, st_if_le, st_icmp_le, st_tsw, st_lsw, st_newarray, st_anewarray, st_new, st_invokevirtual, st_invokespecial, oin_ref, st_static, st_max, st_min, st_abs, st_copyi, st_copyl, st_ireturn, st_lreturn, st_areturn, st_return, rn_succ, inl_nil, inl_cons, rno_some, oi_some, ol_some, or_some, lk_cons, ins_nil, ins_cons, rm_nil, rm_int, rm_ref, rm_long, pop_0, pop_1, pop_2, pop_3, pop_4, pop_5, pop_6, la_nil, la_int, la_ref, la_long, cat_nil, cat_int, cat_ref, cat_long, call_succ, cont_some, cont_none, rcv_0, rcv_1, rcv_2, rcv_3, rcv_4, rcv_5, rcv_6, rcv_7, rcv_8, rcv_s, rf_some, ret_0, ret_10, ret_11, ret_ite, ite_0, sw_nil, sw_cons, ln_some, isk_some, al_some, ↓reduceIte, Nat.reduceAdd, Nat.reduceEqDiff, Nat.reduceLeDiff, Nat.reduceLT, Int32.reduceLT, Int32.reduceLE, Int32.reduceToNatClampNeg, Int32.reduceOfNat, Int32.reduceAdd, Int32.reduceSub, Int.reduceEq, Int.reduceNeg, Int.reduceLT, Int32.reduceOfInt, Int64.reduceOfInt, Bool.false_eq_true, true_and, and_true, eq_self, not_true_eq_false, not_false_eq_true, false_imp_iff, true_imp_iff, forall_const, or_true, true_or, ne_eq, Nat.zero_add, Nat.add_zero, Nat.le_refl, reduceCtorEq, Ft27, Int32.le_refl, List.cons_append, List.nil_append]
        exact ⟨fun h1 => fin.2 h1, fun h1 => fin.1 (Decidable.not_not.mp h1)⟩
    | cons m0 ms ih =>
      intro k s x o hk ho hm hB hd h hos
      simp only [List.length_cons] at hk
      have hge : ¬ nI to ≤ nI k := nI_ge (by omega) (by omega)
      have hvk : vp_in (nI k) 100 := vi (by omega) (by omega)
      have hck : (nI k).toNatClampNeg = k := nI_clamp (by omega)
      have hm0 := hm 0 m0 rfl
      have hm' : ∀ j m, ms[j]? = some m → mkA I q (k + 1 + j) = m := fun j m hj => by
        have := hm (j + 1) m hj
        rwa [show k + (j + 1) = k + 1 + j by omega] at this
      simp only [dpL] at hd
      cases hdm : dpM s.length m0 with
      | none => rw [hdm] at hd; cases hd
      | some e =>
        rw [hdm] at hd
        simp only [Option.bind_some] at hd
        have hle := dpM_len (w := tw I t) (i := i) hdm
        have nxt : ∀ (x' : Int32) (a b : Int32), BI x' (evM (tw I t) i s m0) → pm_wp X (d + 1) 27 154 [(0, .ref q), (1, .ref t), (2, .int (nI i)), (3, .int (nI fr)), (4, .int (nI to)), (5, .int x'), (6, .int (nI k)), (7, .int a), (8, .int b)] [] 0 0 SH I L (RR K) Q := by
          intro x' a b hB'
          refine pm_run_wp (n := 10) (stops := [6]) ?_
          simp only [st_iload_n, st_iload, st_lload_n, st_aload_n, st_aload, st_istore_n, st_istore, st_astore_n, st_astore, st_iconst, st_bipush, st_sipush, st_lconst, st_ldc, st_ldc_w, st_ldc2_w, st_getfield, st_putfieldI, st_putfieldR, st_getstatic, st_iaload, st_iastore, st_baload, st_bastore, st_laload, st_lastore, st_aaload, st_aastore, st_arraylength, st_iadd, st_isub, st_imul, st_iand, st_ior, st_ixor, st_ishl, st_ishr, st_idiv, st_irem, st_ineg, st_land, st_lor, st_lshl, st_i2l, st_l2i, st_i2b, st_i2s, st_i2c, st_lcmp, st_iinc, st_dupI, st_dupR, st_dup2, st_pop, st_goto, st_if_eq, st_icmp_eq, st_if_ne, st_icmp_ne, st_if_lt, st_icmp_lt, st_if_ge, st_icmp_ge, st_if_gt, st_icmp_gt, st_if_le, st_icmp_le, st_tsw, st_lsw, st_newarray, st_anewarray, st_new, st_invokevirtual, st_invokespecial, oin_ref, st_static, st_max, st_min, st_abs, st_copyi, st_copyl, st_ireturn, st_lreturn, st_areturn, st_return, rn_succ, inl_nil, inl_cons, rno_some, oi_some, ol_some, or_some, lk_cons, ins_nil, ins_cons, rm_nil, rm_int, rm_ref, rm_long, pop_0, pop_1, pop_2, pop_3, pop_4, pop_5, pop_6, la_nil, la_int, la_ref, la_long, cat_nil, cat_int, cat_ref, cat_long, call_succ, cont_some, cont_none, rcv_0, rcv_1, rcv_2, rcv_3, rcv_4, rcv_5, rcv_6, rcv_7, rcv_8, rcv_s, rf_some, ret_0, ret_10, ret_11, ret_ite, ite_0, sw_nil, sw_cons, ln_some, isk_some, al_some, ↓reduceIte, Nat.reduceAdd, Nat.reduceEqDiff, Nat.reduceLeDiff, Nat.reduceLT, Int32.reduceLT, Int32.reduceLE, Int32.reduceToNatClampNeg, Int32.reduceOfNat, Int32.reduceAdd, Int32.reduceSub, Int.reduceEq, Int.reduceNeg, Int.reduceLT, Int32.reduceOfInt, Int64.reduceOfInt, Bool.false_eq_true, true_and, and_true, eq_self, not_true_eq_false, not_false_eq_true, false_imp_iff, true_imp_iff, forall_const, or_true, true_or, ne_eq, Nat.zero_add, Nat.add_zero, Nat.le_refl, reduceCtorEq, Ft27, ← nI_succ]
          exact ih (k + 1) _ x' [(7, .int a), (8, .int b)] (by omega) (Or.inr ⟨a, b, rfl⟩) hm' hB' (by rw [hle]; exact hd) h (fun q => by cases q)
        have e3 : I (q + 3) k = m0.1 := by rw [← hm0]; rfl
        have e4 : I (q + 4) k = m0.2.1 := by rw [← hm0]; rfl
        have e5 : I (q + 5) k = m0.2.2 := by rw [← hm0]; rfl
        have st1 : pm_wp X (d + 1) 27 19 ([(0, .ref q), (1, .ref t), (2, .int (nI i)), (3, .int (nI fr)), (4, .int (nI to)), (5, .int x), (6, .int (nI k)), (7, .int (x &&& 1))] ++ o.drop 1) [] 0 0 SH I L (RR K) Q := by
          unfold dpM at hdm
          by_cases h33 : m0.1 = 33
          · rw [if_pos h33] at hdm
            have hs1 : 1 ≤ s.length := by
              split at hdm
              next h => exact h
              next => cases hdm
            have hob : ∃ a b, o = [(7, .int a), (8, .int b)] := ho.resolve_left (fun h => by rw [hos h] at hs1; simp at hs1)
            obtain ⟨a, b, rfl⟩ := hob
            refine pm_run_wp (n := 30) (stops := [154]) ?_
            simp only [st_iload_n, st_iload, st_lload_n, st_aload_n, st_aload, st_istore_n, st_istore, st_astore_n, st_astore, st_iconst, st_bipush, st_sipush, st_lconst, st_ldc, st_ldc_w, st_ldc2_w, st_getfield, st_putfieldI, st_putfieldR, st_getstatic, st_iaload, st_iastore, st_baload, st_bastore, st_laload, st_lastore, st_aaload, st_aastore, st_arraylength, st_iadd, st_isub, st_imul, st_iand, st_ior, st_ixor, st_ishl, st_ishr, st_idiv, st_irem, st_ineg, st_land, st_lor, st_lshl, st_i2l, st_l2i, st_i2b, st_i2s, st_i2c, st_lcmp, st_iinc, st_dupI, st_dupR, st_dup2, st_pop, st_goto, st_if_eq, st_icmp_eq, st_if_ne, st_icmp_ne, st_if_lt, st_icmp_lt, st_if_ge, st_icmp_ge, st_if_gt, st_icmp_gt, st_if_le, st_icmp_le, st_tsw, st_lsw, st_newarray, st_anewarray, st_new, st_invokevirtual, st_invokespecial, oin_ref, st_static, st_max, st_min, st_abs, st_copyi, st_copyl, st_ireturn, st_lreturn, st_areturn, st_return, rn_succ, inl_nil, inl_cons, rno_some, oi_some, ol_some, or_some, lk_cons, ins_nil, ins_cons, rm_nil, rm_int, rm_ref, rm_long, pop_0, pop_1, pop_2, pop_3, pop_4, pop_5, pop_6, la_nil, la_int, la_ref, la_long, cat_nil, cat_int, cat_ref, cat_long, call_succ, cont_some, cont_none, rcv_0, rcv_1, rcv_2, rcv_3, rcv_4, rcv_5, rcv_6, rcv_7, rcv_8, rcv_s, rf_some, ret_0, ret_10, ret_11, ret_ite, ite_0, sw_nil, sw_cons, ln_some, isk_some, al_some, ↓reduceIte, Nat.reduceAdd, Nat.reduceEqDiff, Nat.reduceLeDiff, Nat.reduceLT, Int32.reduceLT, Int32.reduceLE, Int32.reduceToNatClampNeg, Int32.reduceOfNat, Int32.reduceAdd, Int32.reduceSub, Int.reduceEq, Int.reduceNeg, Int.reduceLT, Int32.reduceOfInt, Int64.reduceOfInt, Bool.false_eq_true, true_and, and_true, eq_self, not_true_eq_false, not_false_eq_true, false_imp_iff, true_imp_iff, forall_const, or_true, true_or, ne_eq, Nat.zero_add, Nat.add_zero, Nat.le_refl, reduceCtorEq, Ft27, Kf, hvk, hck, e3, h33, List.drop_succ_cons, List.drop_zero, List.cons_append, List.nil_append]
            exact nxt _ _ _ (by unfold evM; rw [if_pos h33]; exact BI_not hB)
          · rw [if_neg h33] at hdm
            by_cases h38 : m0.1 = 38
            · rw [if_pos (Or.inl h38)] at hdm
              have hs2 : 2 ≤ s.length := by
                split at hdm
                next h => exact h
                next => cases hdm
              have hob : ∃ a b, o = [(7, .int a), (8, .int b)] := ho.resolve_left (fun h => by rw [hos h] at hs2; simp at hs2)
              obtain ⟨a, b, rfl⟩ := hob
              obtain ⟨b1, b2, s', rfl⟩ : ∃ b1 b2 s', s = b1 :: b2 :: s' := by
                match s, hs2 with
                | b1 :: b2 :: s', _ => exact ⟨b1, b2, s', rfl⟩
              have hB2 := BI_and hB
              have hev : evM (tw I t) i (b1 :: b2 :: s') m0 = evA (b1 :: b2 :: s') := by unfold evM; rw [if_neg h33, if_pos h38]
              refine pm_run_wp (n := 30) (stops := [154]) ?_
              simp only [st_iload_n, st_iload, st_lload_n, st_aload_n, st_aload, st_istore_n, st_istore, st_astore_n, st_astore, st_iconst, st_bipush, st_sipush, st_lconst, st_ldc, st_ldc_w, st_ldc2_w, st_getfield, st_putfieldI, st_putfieldR, st_getstatic, st_iaload, st_iastore, st_baload, st_bastore, st_laload, st_lastore, st_aaload, st_aastore, st_arraylength, st_iadd, st_isub, st_imul, st_iand, st_ior, st_ixor, st_ishl, st_ishr, st_idiv, st_irem, st_ineg, st_land, st_lor, st_lshl, st_i2l, st_l2i, st_i2b, st_i2s, st_i2c, st_lcmp, st_iinc, st_dupI, st_dupR, st_dup2, st_pop, st_goto, st_if_eq, st_icmp_eq, st_if_ne, st_icmp_ne, st_if_lt, st_icmp_lt, st_if_ge, st_icmp_ge, st_if_gt, st_icmp_gt, st_if_le, st_icmp_le, st_tsw, st_lsw, st_newarray, st_anewarray, st_new, st_invokevirtual, st_invokespecial, oin_ref, st_static, st_max, st_min, st_abs, st_copyi, st_copyl, st_ireturn, st_lreturn, st_areturn, st_return, rn_succ, inl_nil, inl_cons, rno_some, oi_some, ol_some, or_some, lk_cons, ins_nil, ins_cons, rm_nil, rm_int, rm_ref, rm_long, pop_0, pop_1, pop_2, pop_3, pop_4, pop_5, pop_6, la_nil, la_int, la_ref, la_long, cat_nil, cat_int, cat_ref, cat_long, call_succ, cont_some, cont_none, rcv_0, rcv_1, rcv_2, rcv_3, rcv_4, rcv_5, rcv_6, rcv_7, rcv_8, rcv_s, rf_some, ret_0, ret_10, ret_11, ret_ite, ite_0, sw_nil, sw_cons, ln_some, isk_some, al_some, ↓reduceIte, Nat.reduceAdd, Nat.reduceEqDiff, Nat.reduceLeDiff, Nat.reduceLT, Int32.reduceLT, Int32.reduceLE, Int32.reduceToNatClampNeg, Int32.reduceOfNat, Int32.reduceAdd, Int32.reduceSub, Int.reduceEq, Int.reduceNeg, Int.reduceLT, Int32.reduceOfInt, Int64.reduceOfInt, Bool.false_eq_true, true_and, and_true, eq_self, not_true_eq_false, not_false_eq_true, false_imp_iff, true_imp_iff, forall_const, or_true, true_or, ne_eq, Nat.zero_add, Nat.add_zero, Nat.le_refl, reduceCtorEq, Ft27, Kf, hvk, hck, e3, h38, i3833, List.drop_succ_cons, List.drop_zero, List.cons_append, List.nil_append]
              refine ⟨fun h1 => nxt _ _ _ ?_, fun h1 => nxt _ _ _ ?_⟩
              · rw [if_neg h1] at hB2; rw [hev]; exact hB2
              · rw [if_pos (Decidable.not_not.mp h1)] at hB2; rw [hev]; exact hB2
            · by_cases h124 : m0.1 = 124
              · rw [if_pos (Or.inr h124)] at hdm
                have hs2 : 2 ≤ s.length := by
                  split at hdm
                  next h => exact h
                  next => cases hdm
                have hob : ∃ a b, o = [(7, .int a), (8, .int b)] := ho.resolve_left (fun h => by rw [hos h] at hs2; simp at hs2)
                obtain ⟨a, b, rfl⟩ := hob
                obtain ⟨b1, b2, s', rfl⟩ : ∃ b1 b2 s', s = b1 :: b2 :: s' := by
                  match s, hs2 with
                  | b1 :: b2 :: s', _ => exact ⟨b1, b2, s', rfl⟩
                have hB2 := BI_or hB
                have hev : evM (tw I t) i (b1 :: b2 :: s') m0 = evO (b1 :: b2 :: s') := by unfold evM; rw [if_neg h33, if_neg h38, if_pos h124]
                refine pm_run_wp (n := 30) (stops := [154]) ?_
                simp only [st_iload_n, st_iload, st_lload_n, st_aload_n, st_aload, st_istore_n, st_istore, st_astore_n, st_astore, st_iconst, st_bipush, st_sipush, st_lconst, st_ldc, st_ldc_w, st_ldc2_w, st_getfield, st_putfieldI, st_putfieldR, st_getstatic, st_iaload, st_iastore, st_baload, st_bastore, st_laload, st_lastore, st_aaload, st_aastore, st_arraylength, st_iadd, st_isub, st_imul, st_iand, st_ior, st_ixor, st_ishl, st_ishr, st_idiv, st_irem, st_ineg, st_land, st_lor, st_lshl, st_i2l, st_l2i, st_i2b, st_i2s, st_i2c, st_lcmp, st_iinc, st_dupI, st_dupR, st_dup2, st_pop, st_goto, st_if_eq, st_icmp_eq, st_if_ne, st_icmp_ne, st_if_lt, st_icmp_lt, st_if_ge, st_icmp_ge, st_if_gt, st_icmp_gt, st_if_le, st_icmp_le, st_tsw, st_lsw, st_newarray, st_anewarray, st_new, st_invokevirtual, st_invokespecial, oin_ref, st_static, st_max, st_min, st_abs, st_copyi, st_copyl, st_ireturn, st_lreturn, st_areturn, st_return, rn_succ, inl_nil, inl_cons, rno_some, oi_some, ol_some, or_some, lk_cons, ins_nil, ins_cons, rm_nil, rm_int, rm_ref, rm_long, pop_0, pop_1, pop_2, pop_3, pop_4, pop_5, pop_6, la_nil, la_int, la_ref, la_long, cat_nil, cat_int, cat_ref, cat_long, call_succ, cont_some, cont_none, rcv_0, rcv_1, rcv_2, rcv_3, rcv_4, rcv_5, rcv_6, rcv_7, rcv_8, rcv_s, rf_some, ret_0, ret_10, ret_11, ret_ite, ite_0, sw_nil, sw_cons, ln_some, isk_some, al_some, ↓reduceIte, Nat.reduceAdd, Nat.reduceEqDiff, Nat.reduceLeDiff, Nat.reduceLT, Int32.reduceLT, Int32.reduceLE, Int32.reduceToNatClampNeg, Int32.reduceOfNat, Int32.reduceAdd, Int32.reduceSub, Int.reduceEq, Int.reduceNeg, Int.reduceLT, Int32.reduceOfInt, Int64.reduceOfInt, Bool.false_eq_true, true_and, and_true, eq_self, not_true_eq_false, not_false_eq_true, false_imp_iff, true_imp_iff, forall_const, or_true, true_or, ne_eq, Nat.zero_add, Nat.add_zero, Nat.le_refl, reduceCtorEq, Ft27, Kf, hvk, hck, e3, h124, i12433, i12438, List.drop_succ_cons, List.drop_zero, List.cons_append, List.nil_append]
                exact nxt _ _ _ (by rw [hev]; exact hB2)
              · rw [if_neg (fun z => z.elim h38 h124)] at hdm
                have hs3 : s.length < 30 := by
                  split at hdm
                  next h => exact h
                  next => cases hdm
                have hev : evM (tw I t) i s m0 = cmB (letC (tw I t) m0.1 i) m0.2.1 m0.2.2 :: s := by unfold evM; rw [if_neg h33, if_neg h38, if_neg h124]
                have hB2 := BI_push (cmB (letC (tw I t) m0.1 i) m0.2.1 m0.2.2) hs3 hB
                rw [← hev] at hB2
                rcases ho with rfl | ⟨a, b, rfl⟩
                · refine pm_run_wp (n := 40) (stops := [154]) ?_
                  simp only [st_iload_n, st_iload, st_lload_n, st_aload_n, st_aload, st_istore_n, st_istore, st_astore_n, st_astore, st_iconst, st_bipush, st_sipush, st_lconst, st_ldc, st_ldc_w, st_ldc2_w, st_getfield, st_putfieldI, st_putfieldR, st_getstatic, st_iaload, st_iastore, st_baload, st_bastore, st_laload, st_lastore, st_aaload, st_aastore, st_arraylength, st_iadd, st_isub, st_imul, st_iand, st_ior, st_ixor, st_ishl, st_ishr, st_idiv, st_irem, st_ineg, st_land, st_lor, st_lshl, st_i2l, st_l2i, st_i2b, st_i2s, st_i2c, st_lcmp, st_iinc, st_dupI, st_dupR, st_dup2, st_pop, st_goto, st_if_eq, st_icmp_eq, st_if_ne, st_icmp_ne, st_if_lt, st_icmp_lt, st_if_ge, st_icmp_ge, st_if_gt, st_icmp_gt, st_if_le, st_icmp_le, st_tsw, st_lsw, st_newarray, st_anewarray, st_new, st_invokevirtual, st_invokespecial, oin_ref, st_static, st_max, st_min, st_abs, st_copyi, st_copyl, st_ireturn, st_lreturn, st_areturn, st_return, rn_succ, inl_nil, inl_cons, rno_some, oi_some, ol_some, or_some, lk_cons, ins_nil, ins_cons, rm_nil, rm_int, rm_ref, rm_long, pop_0, pop_1, pop_2, pop_3, pop_4, pop_5, pop_6, la_nil, la_int, la_ref, la_long, cat_nil, cat_int, cat_ref, cat_long, call_succ, cont_some, cont_none, rcv_0, rcv_1, rcv_2, rcv_3, rcv_4, rcv_5, rcv_6, rcv_7, rcv_8, rcv_s, rf_some, ret_0, ret_10, ret_11, ret_ite, ite_0, sw_nil, sw_cons, ln_some, isk_some, al_some, ↓reduceIte, Nat.reduceAdd, Nat.reduceEqDiff, Nat.reduceLeDiff, Nat.reduceLT, Int32.reduceLT, Int32.reduceLE, Int32.reduceToNatClampNeg, Int32.reduceOfNat, Int32.reduceAdd, Int32.reduceSub, Int.reduceEq, Int.reduceNeg, Int.reduceLT, Int32.reduceOfInt, Int64.reduceOfInt, Bool.false_eq_true, true_and, and_true, eq_self, not_true_eq_false, not_false_eq_true, false_imp_iff, true_imp_iff, forall_const, or_true, true_or, ne_eq, Nat.zero_add, Nat.add_zero, Nat.le_refl, reduceCtorEq, Ft27, T, Kf, hvk, hck, e3, h33, h38, h124, List.drop_nil, List.append_nil]
                  refine w_letterOf ht hi ?_
                  simp only [st_iload_n, st_iload, st_lload_n, st_aload_n, st_aload, st_istore_n, st_istore, st_astore_n, st_astore, st_iconst, st_bipush, st_sipush, st_lconst, st_ldc, st_ldc_w, st_ldc2_w, st_getfield, st_putfieldI, st_putfieldR, st_getstatic, st_iaload, st_iastore, st_baload, st_bastore, st_laload, st_lastore, st_aaload, st_aastore, st_arraylength, st_iadd, st_isub, st_imul, st_iand, st_ior, st_ixor, st_ishl, st_ishr, st_idiv, st_irem, st_ineg, st_land, st_lor, st_lshl, st_i2l, st_l2i, st_i2b, st_i2s, st_i2c, st_lcmp, st_iinc, st_dupI, st_dupR, st_dup2, st_pop, st_goto, st_if_eq, st_icmp_eq, st_if_ne, st_icmp_ne, st_if_lt, st_icmp_lt, st_if_ge, st_icmp_ge, st_if_gt, st_icmp_gt, st_if_le, st_icmp_le, st_tsw, st_lsw, st_newarray, st_anewarray, st_new, st_invokevirtual, st_invokespecial, oin_ref, st_static, st_max, st_min, st_abs, st_copyi, st_copyl, st_ireturn, st_lreturn, st_areturn, st_return, rn_succ, inl_nil, inl_cons, rno_some, oi_some, ol_some, or_some, lk_cons, ins_nil, ins_cons, rm_nil, rm_int, rm_ref, rm_long, pop_0, pop_1, pop_2, pop_3, pop_4, pop_5, pop_6, la_nil, la_int, la_ref, la_long, cat_nil, cat_int, cat_ref, cat_long, call_succ, cont_some, cont_none, rcv_0, rcv_1, rcv_2, rcv_3, rcv_4, rcv_5, rcv_6, rcv_7, rcv_8, rcv_s, rf_some, ret_0, ret_10, ret_11, ret_ite, ite_0, sw_nil, sw_cons, ln_some, isk_some, al_some, ↓reduceIte, Nat.reduceAdd, Nat.reduceEqDiff, Nat.reduceLeDiff, Nat.reduceLT, Int32.reduceLT, Int32.reduceLE, Int32.reduceToNatClampNeg, Int32.reduceOfNat, Int32.reduceAdd, Int32.reduceSub, Int.reduceEq, Int.reduceNeg, Int.reduceLT, Int32.reduceOfInt, Int64.reduceOfInt, Bool.false_eq_true, true_and, and_true, eq_self, not_true_eq_false, not_false_eq_true, false_imp_iff, true_imp_iff, forall_const, or_true, true_or, ne_eq, Nat.zero_add, Nat.add_zero, Nat.le_refl, reduceCtorEq, Ft27, T, Kf, hvk, hck, e4, e5]
                  refine w_compares ?_
                  simp only [st_iload_n, st_iload, st_lload_n, st_aload_n, st_aload, st_istore_n, st_istore, st_astore_n, st_astore, st_iconst, st_bipush, st_sipush, st_lconst, st_ldc, st_ldc_w, st_ldc2_w, st_getfield, st_putfieldI, st_putfieldR, st_getstatic, st_iaload, st_iastore, st_baload, st_bastore, st_laload, st_lastore, st_aaload, st_aastore, st_arraylength, st_iadd, st_isub, st_imul, st_iand, st_ior, st_ixor, st_ishl, st_ishr, st_idiv, st_irem, st_ineg, st_land, st_lor, st_lshl, st_i2l, st_l2i, st_i2b, st_i2s, st_i2c, st_lcmp, st_iinc, st_dupI, st_dupR, st_dup2, st_pop, st_goto, st_if_eq, st_icmp_eq, st_if_ne, st_icmp_ne, st_if_lt, st_icmp_lt, st_if_ge, st_icmp_ge, st_if_gt, st_icmp_gt, st_if_le, st_icmp_le, st_tsw, st_lsw, st_newarray, st_anewarray, st_new, st_invokevirtual, st_invokespecial, oin_ref, st_static, st_max, st_min, st_abs, st_copyi, st_copyl, st_ireturn, st_lreturn, st_areturn, st_return, rn_succ, inl_nil, inl_cons, rno_some, oi_some, ol_some, or_some, lk_cons, ins_nil, ins_cons, rm_nil, rm_int, rm_ref, rm_long, pop_0, pop_1, pop_2, pop_3, pop_4, pop_5, pop_6, la_nil, la_int, la_ref, la_long, cat_nil, cat_int, cat_ref, cat_long, call_succ, cont_some, cont_none, rcv_0, rcv_1, rcv_2, rcv_3, rcv_4, rcv_5, rcv_6, rcv_7, rcv_8, rcv_s, rf_some, ret_0, ret_10, ret_11, ret_ite, ite_0, sw_nil, sw_cons, ln_some, isk_some, al_some, ↓reduceIte, Nat.reduceAdd, Nat.reduceEqDiff, Nat.reduceLeDiff, Nat.reduceLT, Int32.reduceLT, Int32.reduceLE, Int32.reduceToNatClampNeg, Int32.reduceOfNat, Int32.reduceAdd, Int32.reduceSub, Int.reduceEq, Int.reduceNeg, Int.reduceLT, Int32.reduceOfInt, Int64.reduceOfInt, Bool.false_eq_true, true_and, and_true, eq_self, not_true_eq_false, not_false_eq_true, false_imp_iff, true_imp_iff, forall_const, or_true, true_or, ne_eq, Nat.zero_add, Nat.add_zero, Nat.le_refl, reduceCtorEq, Ft27, bI_0]
                  refine ⟨fun h1 => nxt _ _ _ ?_, fun h1 => nxt _ _ _ ?_⟩
                  · rw [h1] at hB2; exact hB2
                  · rw [(Bool.not_eq_false _).mp h1] at hB2; exact hB2
                · refine pm_run_wp (n := 40) (stops := [154]) ?_
                  simp only [st_iload_n, st_iload, st_lload_n, st_aload_n, st_aload, st_istore_n, st_istore, st_astore_n, st_astore, st_iconst, st_bipush, st_sipush, st_lconst, st_ldc, st_ldc_w, st_ldc2_w, st_getfield, st_putfieldI, st_putfieldR, st_getstatic, st_iaload, st_iastore, st_baload, st_bastore, st_laload, st_lastore, st_aaload, st_aastore, st_arraylength, st_iadd, st_isub, st_imul, st_iand, st_ior, st_ixor, st_ishl, st_ishr, st_idiv, st_irem, st_ineg, st_land, st_lor, st_lshl, st_i2l, st_l2i, st_i2b, st_i2s, st_i2c, st_lcmp, st_iinc, st_dupI, st_dupR, st_dup2, st_pop, st_goto, st_if_eq, st_icmp_eq, st_if_ne, st_icmp_ne, st_if_lt, st_icmp_lt, st_if_ge, st_icmp_ge, st_if_gt, st_icmp_gt, st_if_le, st_icmp_le, st_tsw, st_lsw, st_newarray, st_anewarray, st_new, st_invokevirtual, st_invokespecial, oin_ref, st_static, st_max, st_min, st_abs, st_copyi, st_copyl, st_ireturn, st_lreturn, st_areturn, st_return, rn_succ, inl_nil, inl_cons, rno_some, oi_some, ol_some, or_some, lk_cons, ins_nil, ins_cons, rm_nil, rm_int, rm_ref, rm_long, pop_0, pop_1, pop_2, pop_3, pop_4, pop_5, pop_6, la_nil, la_int, la_ref, la_long, cat_nil, cat_int, cat_ref, cat_long, call_succ, cont_some, cont_none, rcv_0, rcv_1, rcv_2, rcv_3, rcv_4, rcv_5, rcv_6, rcv_7, rcv_8, rcv_s, rf_some, ret_0, ret_10, ret_11, ret_ite, ite_0, sw_nil, sw_cons, ln_some, isk_some, al_some, ↓reduceIte, Nat.reduceAdd, Nat.reduceEqDiff, Nat.reduceLeDiff, Nat.reduceLT, Int32.reduceLT, Int32.reduceLE, Int32.reduceToNatClampNeg, Int32.reduceOfNat, Int32.reduceAdd, Int32.reduceSub, Int.reduceEq, Int.reduceNeg, Int.reduceLT, Int32.reduceOfInt, Int64.reduceOfInt, Bool.false_eq_true, true_and, and_true, eq_self, not_true_eq_false, not_false_eq_true, false_imp_iff, true_imp_iff, forall_const, or_true, true_or, ne_eq, Nat.zero_add, Nat.add_zero, Nat.le_refl, reduceCtorEq, Ft27, T, Kf, hvk, hck, e3, h33, h38, h124, List.drop_succ_cons, List.drop_zero, List.cons_append, List.nil_append]
                  refine w_letterOf ht hi ?_
                  simp only [st_iload_n, st_iload, st_lload_n, st_aload_n, st_aload, st_istore_n, st_istore, st_astore_n, st_astore, st_iconst, st_bipush, st_sipush, st_lconst, st_ldc, st_ldc_w, st_ldc2_w, st_getfield, st_putfieldI, st_putfieldR, st_getstatic, st_iaload, st_iastore, st_baload, st_bastore, st_laload, st_lastore, st_aaload, st_aastore, st_arraylength, st_iadd, st_isub, st_imul, st_iand, st_ior, st_ixor, st_ishl, st_ishr, st_idiv, st_irem, st_ineg, st_land, st_lor, st_lshl, st_i2l, st_l2i, st_i2b, st_i2s, st_i2c, st_lcmp, st_iinc, st_dupI, st_dupR, st_dup2, st_pop, st_goto, st_if_eq, st_icmp_eq, st_if_ne, st_icmp_ne, st_if_lt, st_icmp_lt, st_if_ge, st_icmp_ge, st_if_gt, st_icmp_gt, st_if_le, st_icmp_le, st_tsw, st_lsw, st_newarray, st_anewarray, st_new, st_invokevirtual, st_invokespecial, oin_ref, st_static, st_max, st_min, st_abs, st_copyi, st_copyl, st_ireturn, st_lreturn, st_areturn, st_return, rn_succ, inl_nil, inl_cons, rno_some, oi_some, ol_some, or_some, lk_cons, ins_nil, ins_cons, rm_nil, rm_int, rm_ref, rm_long, pop_0, pop_1, pop_2, pop_3, pop_4, pop_5, pop_6, la_nil, la_int, la_ref, la_long, cat_nil, cat_int, cat_ref, cat_long, call_succ, cont_some, cont_none, rcv_0, rcv_1, rcv_2, rcv_3, rcv_4, rcv_5, rcv_6, rcv_7, rcv_8, rcv_s, rf_some, ret_0, ret_10, ret_11, ret_ite, ite_0, sw_nil, sw_cons, ln_some, isk_some, al_some, ↓reduceIte, Nat.reduceAdd, Nat.reduceEqDiff, Nat.reduceLeDiff, Nat.reduceLT, Int32.reduceLT, Int32.reduceLE, Int32.reduceToNatClampNeg, Int32.reduceOfNat, Int32.reduceAdd, Int32.reduceSub, Int.reduceEq, Int.reduceNeg, Int.reduceLT, Int32.reduceOfInt, Int64.reduceOfInt, Bool.false_eq_true, true_and, and_true, eq_self, not_true_eq_false, not_false_eq_true, false_imp_iff, true_imp_iff, forall_const, or_true, true_or, ne_eq, Nat.zero_add, Nat.add_zero, Nat.le_refl, reduceCtorEq, Ft27, T, Kf, hvk, hck, e4, e5]
                  refine w_compares ?_
                  simp only [st_iload_n, st_iload, st_lload_n, st_aload_n, st_aload, st_istore_n, st_istore, st_astore_n, st_astore, st_iconst, st_bipush, st_sipush, st_lconst, st_ldc, st_ldc_w, st_ldc2_w, st_getfield, st_putfieldI, st_putfieldR, st_getstatic, st_iaload, st_iastore, st_baload, st_bastore, st_laload, st_lastore, st_aaload, st_aastore, st_arraylength, st_iadd, st_isub, st_imul, st_iand, st_ior, st_ixor, st_ishl, st_ishr, st_idiv, st_irem, st_ineg, st_land, st_lor, st_lshl, st_i2l, st_l2i, st_i2b, st_i2s, st_i2c, st_lcmp, st_iinc, st_dupI, st_dupR, st_dup2, st_pop, st_goto, st_if_eq, st_icmp_eq, st_if_ne, st_icmp_ne, st_if_lt, st_icmp_lt, st_if_ge, st_icmp_ge, st_if_gt, st_icmp_gt, st_if_le, st_icmp_le, st_tsw, st_lsw, st_newarray, st_anewarray, st_new, st_invokevirtual, st_invokespecial, oin_ref, st_static, st_max, st_min, st_abs, st_copyi, st_copyl, st_ireturn, st_lreturn, st_areturn, st_return, rn_succ, inl_nil, inl_cons, rno_some, oi_some, ol_some, or_some, lk_cons, ins_nil, ins_cons, rm_nil, rm_int, rm_ref, rm_long, pop_0, pop_1, pop_2, pop_3, pop_4, pop_5, pop_6, la_nil, la_int, la_ref, la_long, cat_nil, cat_int, cat_ref, cat_long, call_succ, cont_some, cont_none, rcv_0, rcv_1, rcv_2, rcv_3, rcv_4, rcv_5, rcv_6, rcv_7, rcv_8, rcv_s, rf_some, ret_0, ret_10, ret_11, ret_ite, ite_0, sw_nil, sw_cons, ln_some, isk_some, al_some, ↓reduceIte, Nat.reduceAdd, Nat.reduceEqDiff, Nat.reduceLeDiff, Nat.reduceLT, Int32.reduceLT, Int32.reduceLE, Int32.reduceToNatClampNeg, Int32.reduceOfNat, Int32.reduceAdd, Int32.reduceSub, Int.reduceEq, Int.reduceNeg, Int.reduceLT, Int32.reduceOfInt, Int64.reduceOfInt, Bool.false_eq_true, true_and, and_true, eq_self, not_true_eq_false, not_false_eq_true, false_imp_iff, true_imp_iff, forall_const, or_true, true_or, ne_eq, Nat.zero_add, Nat.add_zero, Nat.le_refl, reduceCtorEq, Ft27, bI_0]
                  refine ⟨fun h1 => nxt _ _ _ ?_, fun h1 => nxt _ _ _ ?_⟩
                  · rw [h1] at hB2; exact hB2
                  · rw [(Bool.not_eq_false _).mp h1] at hB2; exact hB2
        rcases ho with rfl | ⟨a, b, rfl⟩
        · refine pm_gos (n := 20) (stops := [19]) ?_
          simp only [st_iload_n, st_iload, st_lload_n, st_aload_n, st_aload, st_istore_n, st_istore, st_astore_n, st_astore, st_iconst, st_bipush, st_sipush, st_lconst, st_ldc, st_ldc_w, st_ldc2_w, st_getfield, st_putfieldI, st_putfieldR, st_getstatic, st_iaload, st_iastore, st_baload, st_bastore, st_laload, st_lastore, st_aaload, st_aastore, st_arraylength, st_iadd, st_isub, st_imul, st_iand, st_ior, st_ixor, st_ishl, st_ishr, st_idiv, st_irem, st_ineg, st_land, st_lor, st_lshl, st_i2l, st_l2i, st_i2b, st_i2s, st_i2c, st_lcmp, st_iinc, st_dupI, st_dupR, st_dup2, st_pop, st_goto, st_if_eq, st_icmp_eq, st_if_ne, st_icmp_ne, st_if_lt, st_icmp_lt, st_if_ge, st_icmp_ge, st_if_gt, st_icmp_gt, st_if_le, st_icmp_le, st_tsw, st_lsw, st_newarray, st_anewarray, st_new, st_invokevirtual, st_invokespecial, oin_ref, st_static, st_max, st_min, st_abs, st_copyi, st_copyl, st_ireturn, st_lreturn, st_areturn, st_return, rn_succ, inl_nil, inl_cons, rno_some, oi_some, ol_some, or_some, lk_cons, ins_nil, ins_cons, rm_nil, rm_int, rm_ref, rm_long, pop_0, pop_1, pop_2, pop_3, pop_4, pop_5, pop_6, la_nil, la_int, la_ref, la_long, cat_nil, cat_int, cat_ref, cat_long, call_succ, cont_some, cont_none, rcv_0, rcv_1, rcv_2, rcv_3, rcv_4, rcv_5, rcv_6, rcv_7, rcv_8, rcv_s, rf_some, ret_0, ret_10, ret_11, ret_ite, ite_0, sw_nil, sw_cons, ln_some, isk_some, al_some, ↓reduceIte, Nat.reduceAdd, Nat.reduceEqDiff, Nat.reduceLeDiff, Nat.reduceLT, Int32.reduceLT, Int32.reduceLE, Int32.reduceToNatClampNeg, Int32.reduceOfNat, Int32.reduceAdd, Int32.reduceSub, Int.reduceEq, Int.reduceNeg, Int.reduceLT, Int32.reduceOfInt, Int64.reduceOfInt, Bool.false_eq_true, true_and, and_true, eq_self, not_true_eq_false, not_false_eq_true, false_imp_iff, true_imp_iff, forall_const, or_true, true_or, ne_eq, Nat.zero_add, Nat.add_zero, Nat.le_refl, reduceCtorEq, Ft27, hge, List.append_nil]
          exact st1
        · refine pm_gos (n := 20) (stops := [19]) ?_
          simp only [st_iload_n, st_iload, st_lload_n, st_aload_n, st_aload, st_istore_n, st_istore, st_astore_n, st_astore, st_iconst, st_bipush, st_sipush, st_lconst, st_ldc, st_ldc_w, st_ldc2_w, st_getfield, st_putfieldI, st_putfieldR, st_getstatic, st_iaload, st_iastore, st_baload, st_bastore, st_laload, st_lastore, st_aaload, st_aastore, st_arraylength, st_iadd, st_isub, st_imul, st_iand, st_ior, st_ixor, st_ishl, st_ishr, st_idiv, st_irem, st_ineg, st_land, st_lor, st_lshl, st_i2l, st_l2i, st_i2b, st_i2s, st_i2c, st_lcmp, st_iinc, st_dupI, st_dupR, st_dup2, st_pop, st_goto, st_if_eq, st_icmp_eq, st_if_ne, st_icmp_ne, st_if_lt, st_icmp_lt, st_if_ge, st_icmp_ge, st_if_gt, st_icmp_gt, st_if_le, st_icmp_le, st_tsw, st_lsw, st_newarray, st_anewarray, st_new, st_invokevirtual, st_invokespecial, oin_ref, st_static, st_max, st_min, st_abs, st_copyi, st_copyl, st_ireturn, st_lreturn, st_areturn, st_return, rn_succ, inl_nil, inl_cons, rno_some, oi_some, ol_some, or_some, lk_cons, ins_nil, ins_cons, rm_nil, rm_int, rm_ref, rm_long, pop_0, pop_1, pop_2, pop_3, pop_4, pop_5, pop_6, la_nil, la_int, la_ref, la_long, cat_nil, cat_int, cat_ref, cat_long, call_succ, cont_some, cont_none, rcv_0, rcv_1, rcv_2, rcv_3, rcv_4, rcv_5, rcv_6, rcv_7, rcv_8, rcv_s, rf_some, ret_0, ret_10, ret_11, ret_ite, ite_0, sw_nil, sw_cons, ln_some, isk_some, al_some, ↓reduceIte, Nat.reduceAdd, Nat.reduceEqDiff, Nat.reduceLeDiff, Nat.reduceLT, Int32.reduceLT, Int32.reduceLE, Int32.reduceToNatClampNeg, Int32.reduceOfNat, Int32.reduceAdd, Int32.reduceSub, Int.reduceEq, Int.reduceNeg, Int.reduceLT, Int32.reduceOfInt, Int64.reduceOfInt, Bool.false_eq_true, true_and, and_true, eq_self, not_true_eq_false, not_false_eq_true, false_imp_iff, true_imp_iff, forall_const, or_true, true_or, ne_eq, Nat.zero_add, Nat.add_zero, Nat.le_refl, reduceCtorEq, Ft27, hge, List.cons_append, List.nil_append]
          exact st1
  refine pm_run_wp (n := 20) (stops := [6]) ?_
  simp only [st_iload_n, st_iload, st_lload_n, st_aload_n, st_aload, st_istore_n, st_istore, st_astore_n, st_astore, st_iconst, st_bipush, st_sipush, st_lconst, st_ldc, st_ldc_w, st_ldc2_w, st_getfield, st_putfieldI, st_putfieldR, st_getstatic, st_iaload, st_iastore, st_baload, st_bastore, st_laload, st_lastore, st_aaload, st_aastore, st_arraylength, st_iadd, st_isub, st_imul, st_iand, st_ior, st_ixor, st_ishl, st_ishr, st_idiv, st_irem, st_ineg, st_land, st_lor, st_lshl, st_i2l, st_l2i, st_i2b, st_i2s, st_i2c, st_lcmp, st_iinc, st_dupI, st_dupR, st_dup2, st_pop, st_goto, st_if_eq, st_icmp_eq, st_if_ne, st_icmp_ne, st_if_lt, st_icmp_lt, st_if_ge, st_icmp_ge, st_if_gt, st_icmp_gt, st_if_le, st_icmp_le, st_tsw, st_lsw, st_newarray, st_anewarray, st_new, st_invokevirtual, st_invokespecial, oin_ref, st_static, st_max, st_min, st_abs, st_copyi, st_copyl, st_ireturn, st_lreturn, st_areturn, st_return, rn_succ, inl_nil, inl_cons, rno_some, oi_some, ol_some, or_some, lk_cons, ins_nil, ins_cons, rm_nil, rm_int, rm_ref, rm_long, pop_0, pop_1, pop_2, pop_3, pop_4, pop_5, pop_6, la_nil, la_int, la_ref, la_long, cat_nil, cat_int, cat_ref, cat_long, call_succ, cont_some, cont_none, rcv_0, rcv_1, rcv_2, rcv_3, rcv_4, rcv_5, rcv_6, rcv_7, rcv_8, rcv_s, rf_some, ret_0, ret_10, ret_11, ret_ite, ite_0, sw_nil, sw_cons, ln_some, isk_some, al_some, ↓reduceIte, Nat.reduceAdd, Nat.reduceEqDiff, Nat.reduceLeDiff, Nat.reduceLT, Int32.reduceLT, Int32.reduceLE, Int32.reduceToNatClampNeg, Int32.reduceOfNat, Int32.reduceAdd, Int32.reduceSub, Int.reduceEq, Int.reduceNeg, Int.reduceLT, Int32.reduceOfInt, Int64.reduceOfInt, Bool.false_eq_true, true_and, and_true, eq_self, not_true_eq_false, not_false_eq_true, false_imp_iff, true_imp_iff, forall_const, or_true, true_or, ne_eq, Nat.zero_add, Nat.add_zero, Nat.le_refl, reduceCtorEq, Ft27]
  exact loop ms fr [] 0 [] hlen (Or.inl rfl) hms ⟨by simp, fun j b h => by simp at h⟩ hd h (fun _ => rfl)
end PLK
