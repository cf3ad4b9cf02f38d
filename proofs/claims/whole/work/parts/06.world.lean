/-! the world of the pure heap over the machine's, and what it means that a run of the pure machine is one of the machine -/
def pm_cz (F : Value) (ad : Nat → Nat) (v : Value) : Value := match v with
  | .ref i => if i = 1000003 then F else .ref (ad i)
  | w => w
def pm_kd (ci k : Nat) : Nat := (pm_kt ci).getD k 0
def pm_ob (ad : Nat → Nat) (I : pm_I) (R : pm_R) (a ci : Nat) : List Value := (List.range (pm_nf ci)).map (fun k => if pm_kd ci k = 2 then va_rf ((R a k).map ad) else .int (I a k))
def pm_ce (CA : Nat → ClassId) (ad : Nat → Nat) (I : pm_I) (L : pm_L) (R : pm_R) (a : Nat) (q : Nat × Nat) : va_E :=
  if q.1 = 0 then .inr (q.2, pm_ob ad I R a q.2)
  else if q.1 = 3 then .inl (CA q.1, q.2, .inr (.inl (L a)))
  else if q.1 < 3 then .inl (CA q.1, q.2, .inl (I a))
  else .inl (CA q.1, q.2, .inr (.inr (.inr (.inr (fun j => (R a j).map ad)))))
def pm_ws (CA : Nat → ClassId) (ad : Nat → Nat) (sh : pm_S) (I : pm_I) (L : pm_L) (R : pm_R) : va_W := sh.mapIdx (fun a q => (ad a, pm_ce CA ad I L R a q))
def pm_tys (CA : Nat → ClassId) : List (ClassId × FieldType) := [(CA 1, .int), (CA 2, .boolean), (CA 3, .long), (CA 6, .object RX2), (CA 10, .object RX6)]
def pm_nest : List Cond := [
  Cond.fieldLinkNest RX0 52 RX7 "ABOVE" "[I" RX7,
  Cond.methodLinkNest RX0 45 yX7_isWithin RX7,
  Cond.methodLinkNest RX4 31 yX7_isWithin RX7,
  Cond.methodLinkNest RX5 68 yX7_isWithin RX7,
  Cond.methodLinkNest RX5 120 yX7_held RX7,
  Cond.methodLinkNest RX6 22 yX7_held RX7,
  Cond.methodLinkNest RX7 23 yX3_init RX7,
  Cond.methodLinkNest RX7 58 yX0_init RX7,
  Cond.methodLinkNest RX7 91 yX6_init RX7]
def pm_six : Nat → Nat
  | 0 => 76
  | 1 => 78
  | 2 => 80
  | 3 => 81
  | _ => 82
def pm_stx : Nat → String
  | 0 => "louder"
  | 1 => "softer"
  | 2 => "step"
  | 3 => "wake"
  | _ => "pay"
def pm_FX (X : pm_X) (F : Value) (ad : Nat → Nat) (A : Nat → Prop) (U : State) (H : Heap) : Prop :=
  va_X (ad 1000000) X.1 X.2 U H ∧ ad 1000000 < H.size ∧ ¬ A (ad 1000000) ∧
  va_Z RX7 "ABOVE" "[I" (.ref (ad 1000001)) A U H ∧ va_T .int (ad 1000001) 7 (fun j => .int ((pm_fa X 1000001).2 j)) A U H ∧
  va_Z RX0 "BODIES" "[I" (.ref (ad 1000002)) A U H ∧ va_T .int (ad 1000002) 21 (fun j => .int ((pm_fa X 1000002).2 j)) A U H ∧
  va_Z RJ0 "COMPACT_STRINGS" "Z" (.int 1) A U H ∧ va_Z RJ3 "SIOOBE_FORMATTER" "Ljava/util/function/BiFunction;" F A U H ∧
  vk_S 5 [6, 6, 4, 4, 3] [pm_fs 1000020, pm_fs 1000021, pm_fs 1000022, pm_fs 1000023, pm_fs 1000024] (fun i => ad (1000010 + i)) (fun i => ad (1000020 + i)) A U H ∧
  (∀ i, i < 5 → vk_R RX3 (pm_six i) (pm_stx i) (ad (1000010 + i)) U) ∧ (∀ w ∈ pm_nest, va_Nw w U) ∧ va_AO RX2 U ∧ va_AO RX6 U
/-- what stands fixed while a method runs -/
def pm_cx (X : pm_X) (F : Value) (d mi : Nat) (p : Program) (Rm : Room) (s : State) (m : MethodId) (args : Array Value) (meth : Method) (cd : Code) (A : Nat → Prop) (ad : Nat → Nat) (D : va_G) (CA : Nat → ClassId) : Prop :=
  (∃ own y cc ml r na, pm_ms[mi]? = some (own, y, cc, ml, r, na) ∧ cd.code = cc ∧ cd.maxLocals = ml ∧ s.vm.findClass (pm_os own) = some m.cls ∧ meth.sig.returnType = r ∧ (y.name = "<init>" → meth.name = "<init>")) ∧
  p.tables.exec = Jvm.exec ∧ (∀ w ∈ pm_tb, w.before args s = true) ∧ meth.locks = false ∧ d ≤ Rm.frames ∧ 60 * d ≤ Rm.locals ∧ (pm_cst mi).1 ≤ Rm.cells ∧ (pm_cst mi).2 ≤ Rm.slots ∧
  va_K D vwCl (pm_tys CA) s ∧ (F = .null ∨ ∃ t, F = .ref t) ∧ pm_FX X F ad A s s.heap ∧ ∀ q, s.heap.size ≤ q → A q
def pm_hw (D : va_G) (CA : Nat → ClassId) (A : Nat → Prop) (s : State) (sh : pm_S) (I : pm_I) (L : pm_L) (R : pm_R) (ad : Nat → Nat) (H : Heap) (locs : List Loc) : Prop :=
  va_P D vwCl (pm_ws CA ad sh I L R) H ∧ va_D A (pm_ws CA ad sh I L R) ∧ va_S A s.heap H locs ∧ sh.length ≤ 1000000 ∧ ∀ a k i, R a k = some i → i < sh.length
def pm_ext (ad0 : Nat → Nat) (n0 mi : Nat) (ad : Nat → Nat) (sh : pm_S) : Prop :=
  (∀ i, (i < n0 ∨ 1000000 ≤ i) → ad i = ad0 i) ∧ n0 ≤ sh.length ∧ ((pm_cst mi).1 = 0 → ad = ad0)
def pm_lc (F : Value) (ad : Nat → Nat) (l : pm_l) : pm_l := l.map (fun q => (q.1, pm_cz F ad q.2))
/-- the instruction there returns such an answer -/
def pm_rd (mi pc : Nat) (v : Option Value) : Prop :=
  ∃ own y cc ml r na, pm_ms[mi]? = some (own, y, cc, ml, r, na) ∧ match v with
    | none => decode cc pc = .ok (.return_, 1) ∧ r = none
    | some (.int x) => decode cc pc = .ok (.ireturn, 1) ∧ ∃ ty, r = some ty ∧ narrow ty (.int x) = .int x
    | some (.long _) => decode cc pc = .ok (.lreturn, 1) ∧ r = some .long
    | some (.ref x) => decode cc pc = .ok (.areturn, 1) ∧ ∃ nm, r = some (.object nm)
    | _ => False
def pm_snd (X : pm_X) : pm_P := fun d mi pc l st c z sh I L R Q =>
  ∀ (p : Program) (l0 : Launch) (e : Env) (Rm : Room) (s : State) (m : MethodId) (args : Array Value) (below : List Frame) (meth : Method) (cd : Code) (F : Value) (A : Nat → Prop) (D : va_G) (CA : Nat → ClassId) (ad0 : Nat → Nat) (n0 : Nat) (H : Heap) (locs : List Loc) (ls : Array Slot) (ad : Nat → Nat) (Qf : State → Prop),
    pm_cx X F d mi p Rm s m args meth cd A ad0 D CA → pm_hw D CA A s sh I L R ad H locs → pm_ext ad0 n0 mi ad sh → c ≤ (pm_cst mi).1 → z ≤ (pm_cst mi).2 → lv_has ls cd.maxLocals (pm_lc F ad l) →
    (∀ (v : Option Value) (sh' : pm_S) (I' : pm_I) (L' : pm_L) (R' : pm_R) (ad' : Nat → Nat) (H' : Heap) (locs' : List Loc) (pc' : Nat) (ls' : Array Slot) (c' z' : Nat), Q v sh' I' L' R' → pm_hw D CA A s sh' I' L' R' ad' H' locs' → pm_ext ad0 n0 mi ad' sh' → c' ≤ (pm_cst mi).1 → z' ≤ (pm_cst mi).2 → pm_rd mi pc' v →
      W p l0 e Rm s m args below meth cd H' locs' c' z' Qf (F0 m pc' ls' (v.map (pm_cz F ad')).toList)) →
    W p l0 e Rm s m args below meth cd H locs c z Qf (F0 m pc ls (st.map (pm_cz F ad)))
theorem pm_map_set {α β : Type} {f g : Nat → α → β} {sh : List α} {r : Nat} {q : α} {v : β} (hr : sh[r]? = some q) (hv : g r q = v) (hne : ∀ a x, a ≠ r → sh[a]? = some x → g a x = f a x) : (sh.mapIdx f).set r v = sh.mapIdx g := by
  apply List.ext_getElem?
  intro j
  rw [List.getElem?_set, List.getElem?_mapIdx, List.getElem?_mapIdx]
  by_cases hj : r = j
  · subst hj
    rw [if_pos rfl, List.length_mapIdx, if_pos (List.getElem?_eq_some_iff.mp hr).1, hr]
    simp [hv]
  · rw [if_neg hj]
    cases hx : sh[j]? with
    | none => rfl
    | some x => simp [hne j x (fun h => hj h.symm) hx]
theorem pm_map_push {α β : Type} {f g : Nat → α → β} {sh : List α} {q : α} {v : β} (hv : g sh.length q = v) (hne : ∀ a x, a < sh.length → g a x = f a x) : sh.mapIdx f ++ [v] = (sh ++ [q]).mapIdx g := by
  rw [List.mapIdx_concat, hv]
  congr 1
  apply List.ext_getElem?
  intro j
  rw [List.getElem?_mapIdx, List.getElem?_mapIdx]
  cases hx : sh[j]? with
  | none => rfl
  | some x => simp [hne j x (List.getElem?_eq_some_iff.mp hx).1]
theorem pm_ws_at {CA : Nat → ClassId} {ad : Nat → Nat} {sh : pm_S} {I : pm_I} {L : pm_L} {R : pm_R} {r : Nat} {q : Nat × Nat} (h : sh[r]? = some q) : (pm_ws CA ad sh I L R)[r]? = some (ad r, pm_ce CA ad I L R r q) := by
  unfold pm_ws
  rw [List.getElem?_mapIdx, h]
  rfl
theorem pm_ln_some {o : Option (Nat × Nat)} {k : Nat} {i : Int32} (h : vp_in i (pm_ln o k)) : ∃ n, o = some (k, n) ∧ vp_in i n := by
  cases o with
  | none => exact absurd (Nat.zero_le _) (fun q => h (Or.inr q))
  | some q =>
    obtain ⟨j, n⟩ := q
    by_cases hj : j = k
    · subst hj
      exact ⟨n, rfl, by simpa [pm_ln] using h⟩
    · refine absurd (Nat.zero_le i.toNatClampNeg) (fun q => h (Or.inr ?_))
      simp [pm_ln, hj]
theorem pm_len1 {sh : pm_S} {r : Nat} {q : Nat × Nat} (h : sh[r]? = some q) : r < sh.length := (List.getElem?_eq_some_iff.mp h).1
theorem pm_lk_mem : ∀ {l : pm_l} {k : Nat} {v : Value}, pm_lk l k = some v → (k, v) ∈ l
  | [], _, _, h => by cases h
  | (i, w) :: r, k, v, h => by
    unfold pm_lk at h
    split at h
    next hi => cases h; subst hi; exact List.mem_cons_self
    next => exact List.mem_cons_of_mem _ (pm_lk_mem h)
theorem pm_lc_at {F : Value} {ad : Nat → Nat} {l : pm_l} {k : Nat} {v : Value} {ls : Array Slot} {n : Nat} (h : lv_has ls n (pm_lc F ad l)) (hk : pm_lk l k = some v) : ls[k]? = some (.val (pm_cz F ad v)) :=
  h.2.2 (k, pm_cz F ad v) (List.mem_map.mpr ⟨(k, v), pm_lk_mem hk, rfl⟩)
theorem pm_cz_cat {F : Value} (hF : F = .null ∨ ∃ t, F = .ref t) (ad : Nat → Nat) (v : Value) : (pm_cz F ad v).category = v.category := by
  unfold pm_cz
  cases v <;> try rfl
  next i =>
    show (if i = 1000003 then F else Value.ref (ad i)).category = 1
    by_cases hi : i = 1000003
    · rw [if_pos hi]
      rcases hF with rfl | ⟨t, rfl⟩ <;> rfl
    · rw [if_neg hi]; rfl
theorem pm_lc_rm {F : Value} (hF : F = .null ∨ ∃ t, F = .ref t) (ad : Nat → Nat) (i : Nat) : ∀ l : pm_l, pm_lc F ad (pm_rm l i) = (pm_lc F ad l).filter (fun q => !(q.1 == i) && !(q.1 + 1 == i && q.2.category == 2))
  | [] => rfl
  | (k, w) :: r => by
    have ih := pm_lc_rm hF ad i r
    unfold pm_rm
    show _ = List.filter _ ((k, pm_cz F ad w) :: pm_lc F ad r)
    rw [List.filter_cons]
    by_cases h : k = i ∨ (k + 1 = i ∧ w.category = 2)
    · rw [if_pos h, ih, if_neg]
      simp only [pm_cz_cat hF]
      rcases h with h | ⟨h1, h2⟩
      · simp [h]
      · simp [h1, h2]
    · rw [if_neg h, if_pos]
      · show (k, pm_cz F ad w) :: pm_lc F ad (pm_rm r i) = _
        rw [ih]
      · simp only [pm_cz_cat hF]
        simp only [not_or, not_and] at h
        simp only [Bool.and_eq_true, Bool.not_eq_true', beq_eq_false_iff_ne, Bool.and_eq_false_imp, beq_iff_eq]
        exact ⟨h.1, h.2⟩
theorem pm_popE : ∀ (n : Nat) (acc st : List Value) (as rest : List Value), pm_pop n acc st = some (as, rest) → ∃ xs, st = xs ++ rest ∧ as = xs.reverse ++ acc ∧ xs.length = n
  | 0, acc, st, as, rest, h => by cases h; exact ⟨[], rfl, rfl, rfl⟩
  | n + 1, acc, [], as, rest, h => by cases h
  | n + 1, acc, v :: st, as, rest, h => by
    obtain ⟨xs, h1, h2, h3⟩ := pm_popE n (v :: acc) st as rest h
    exact ⟨v :: xs, by rw [h1]; rfl, by rw [h2]; simp, by simp [h3]⟩
theorem pm_ins_mem {i : Nat} {v : Value} {q : Nat × Value} : ∀ {l : pm_l}, q ∈ pm_ins l i v → q ∈ (i, v) :: l
  | [], h => h
  | (k, w) :: r, h => by
    unfold pm_ins at h
    split at h
    · exact h
    · rcases List.mem_cons.mp h with h | h
      · exact List.mem_cons_of_mem _ (List.mem_cons.mpr (Or.inl h))
      · rcases List.mem_cons.mp (pm_ins_mem h) with h | h
        · exact List.mem_cons.mpr (Or.inl h)
        · exact List.mem_cons_of_mem _ (List.mem_cons_of_mem _ h)
theorem pm_lc_ins {F : Value} {ad : Nat → Nat} {l : pm_l} {i : Nat} {v : Value} {ls : Array Slot} {n : Nat} (h : lv_has ls n (pm_lc F ad ((i, v) :: l))) : lv_has ls n (pm_lc F ad (pm_ins l i v)) := by
  refine ⟨h.1, h.2.1, fun q hq => ?_⟩
  obtain ⟨q0, hq0, rfl⟩ := List.mem_map.mp hq
  exact h.2.2 _ (List.mem_map.mpr ⟨q0, pm_ins_mem hq0, rfl⟩)
