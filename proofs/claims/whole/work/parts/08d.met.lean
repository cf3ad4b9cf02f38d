/-! SOUNDNESS of calls: a method's contract out of its pure run, and the caller behind it -/
theorem pm_lc_args {F : Value} (hF : F = .null ∨ ∃ t, F = .ref t) (ad : Nat → Nat) : ∀ (vs : List Value) (i : Nat), pm_lc F ad (lv_args i vs) = lv_args i (vs.map (pm_cz F ad))
  | [], _ => rfl
  | v :: vs, i => by
    show (i, pm_cz F ad v) :: pm_lc F ad (lv_args (if v.category = 2 then i + 2 else i + 1) vs) = (i, pm_cz F ad v) :: lv_args (if (pm_cz F ad v).category = 2 then i + 2 else i + 1) (vs.map (pm_cz F ad))
    rw [pm_lc_args hF ad vs, pm_cz_cat hF]
theorem pm_sl_len : ∀ vs : List Value, (lg_sl vs).length = pm_cat vs
  | [] => rfl
  | v :: vs => by
    have ih := pm_sl_len vs
    unfold lg_sl pm_cat at *
    rw [List.flatMap_cons, List.length_append, ih, List.map_cons, List.sum_cons]
    rcases lv_cat v with h | h
    · rw [h]; rfl
    · rw [h]; rfl
theorem pm_cat_map {F : Value} (hF : F = .null ∨ ∃ t, F = .ref t) (ad : Nat → Nat) (st : List Value) : ((st.map (pm_cz F ad)).map fun v => v.category).sum = pm_cat st := by
  rw [List.map_map, show ((fun v : Value => v.category) ∘ pm_cz F ad) = fun v => v.category from funext fun v => pm_cz_cat hF ad v]
  rfl
theorem pm_nest_on : ∀ w ∈ pm_nest, w.onTables = true := by
  have h : pm_nest.all (fun w => w.onTables) = true := by decide +kernel
  exact fun w hw => List.all_eq_true.mp h w hw
theorem pm_FX_same {X : pm_X} {F : Value} {ad : Nat → Nat} {A : Nat → Prop} {U U' : State} {H : Heap} (hv : U.vm = U'.vm) (h : pm_FX X F ad A U H) : pm_FX X F ad A U' H := by
  obtain ⟨a1, a2, a3, a4, a5, a6, a7, a8, a9, b1, b2, b3, b4, b5⟩ := h
  have hA : U.vm.Alike U'.vm := by rw [hv]; exact Vm.Alike.refl _
  exact ⟨a1.moved hA, a2, a3, a4.moved hA, a5.moved hA, a6.moved hA, a7.moved hA, a8.moved hA, a9.moved hA, b1.moved hA, fun i hi => vk_R.same hv.symm (b2 i hi), fun w hw => va_Nw.same (pm_nest_on w hw) hv (b3 w hw), b4.moved hA, b5.moved hA⟩
theorem pm_FX_warm {X : pm_X} {F : Value} {ad : Nat → Nat} {A : Nat → Prop} {s U : State} {H : Heap} (hW : s.WarmedH U.vm) (h : pm_FX X F ad A s H) : pm_FX X F ad A U H := by
  obtain ⟨a1, a2, a3, a4, a5, a6, a7, a8, a9, b1, b2, b3, b4, b5⟩ := h
  have hA := hW.alike
  refine ⟨a1.moved hA, a2, a3, a4.moved hA, a5.moved hA, a6.moved hA, a7.moved hA, a8.moved hA, a9.moved hA, b1.moved hA, fun i hi => vk_R.warm hW (b2 i hi), ?_, b4.moved hA, b5.moved hA⟩
  have g : ∀ i w, pm_nest[i]? = some w → va_Nw w s := fun i w hi => b3 w (List.mem_of_getElem? hi)
  exact List.forall_mem_cons.mpr ⟨va_Nw.warmF hW (g 0 _ rfl), List.forall_mem_cons.mpr ⟨va_Nw.warmM hW (g 1 _ rfl), List.forall_mem_cons.mpr ⟨va_Nw.warmM hW (g 2 _ rfl), List.forall_mem_cons.mpr ⟨va_Nw.warmM hW (g 3 _ rfl), List.forall_mem_cons.mpr ⟨va_Nw.warmM hW (g 4 _ rfl), List.forall_mem_cons.mpr ⟨va_Nw.warmM hW (g 5 _ rfl), List.forall_mem_cons.mpr ⟨va_Nw.warmM hW (g 6 _ rfl), List.forall_mem_cons.mpr ⟨va_Nw.warmM hW (g 7 _ rfl), List.forall_mem_cons.mpr ⟨va_Nw.warmM hW (g 8 _ rfl), fun _ h => absurd h List.not_mem_nil⟩⟩⟩⟩⟩⟩⟩⟩⟩
theorem pm_FX_to {X : pm_X} {F : Value} {ad : Nat → Nat} {A B : Nat → Prop} {s : State} {H0 H : Heap} {locs : List Loc} (hS : va_S A H0 H locs) (hAB : ∀ q, B q → A q) (h : pm_FX X F ad A s H0) : pm_FX X F ad B s H := by
  obtain ⟨a1, a2, a3, a4, a5, a6, a7, a8, a9, b1, b2, b3, b4, b5⟩ := h
  have hq := hS.2.1
  exact ⟨a1.kept (hq _ a2 a3), Nat.lt_of_lt_of_le a2 hS.1, fun q => a3 (hAB _ q), (a4.kept hq).narrow hAB, (a5.kept hq).narrow hAB, (a6.kept hq).narrow hAB, (a7.kept hq).narrow hAB, (a8.kept hq).narrow hAB, (a9.kept hq).narrow hAB, (b1.kept hq).narrow hAB, b2, b3, b4, b5⟩
theorem pm_mdata {mi own : Nat} {y : MethodName} {cc : ByteArray} {ml : Nat} {r : Option FieldType} {na : Nat} (hm : pm_ms[mi]? = some (own, y, cc, ml, r, na)) (h : mi < 227) :
    Cond.code y cc ml r ∈ pm_tb ∧ y.cls = pm_os own ∧ Cond.initialized y.cls ∈ pm_tb ∧ (y.cls ≠ "java/lang/invoke/MethodHandle" ∧ y.cls ≠ "java/lang/invoke/VarHandle" ∧ (parseMethodDescriptor y.desc).map (fun d => d.parameters.length) = some na) ∧ plainName y.cls = true ∧ ml ≤ 30 ∧ pm_mx mi = ml ∧
    ∃ p1 p2 p3 p4 st, pm_mw[mi]? = some (p1, p2, p3, p4, st) ∧ (st = true → Cond.static y ∈ pm_tb) ∧ (st = false → Cond.instanceMethod y ∈ pm_tb) ∧ (st = false → y.name ≠ "<init>" → Cond.selects y.cls y y ∈ pm_tb) := by
  have h1 := List.all_eq_true.mp pm_mok_all mi (List.mem_range.mpr h)
  unfold pm_mok at h1
  rw [hm] at h1
  split at h1
  next o2 y2 c2 m2 r2 n2 p1 p2 p3 p4 st e1 e2 =>
    cases e1
    simp only [Bool.and_eq_true, decide_eq_true_eq] at h1
    obtain ⟨⟨⟨⟨⟨⟨⟨⟨⟨g1, g2⟩, g3⟩, g4⟩, g5⟩, g6⟩, g7⟩, g8⟩, g9⟩, g10⟩ := h1
    have hcw : Cond.code y cc ml r ∈ pm_tb := by
      refine pm_cw_all _ (List.mem_of_getElem? hm) (fun hL => ?_)
      have hL2 : own = 99 := by
        have := List.mem_singleton.mp hL
        exact congrArg (fun q => q.1) this
      have hne : ∀ q ∈ pm_ms.take 227, q.1 ≠ 99 := by decide +kernel
      exact hne _ (List.mem_of_getElem? (i := mi) (by rw [List.getElem?_take_of_lt h]; exact hm)) hL2
    refine ⟨hcw, g4, pm_has_mem g1, ⟨g5, g6, g7⟩, g8, g9, g10, p1, p2, p3, p4, st, e2, fun hst => ?_, fun hst => ?_, fun hst hn => ?_⟩
    · subst hst; exact pm_has_mem g2
    · subst hst; exact pm_has_mem g2
    · subst hst
      rw [if_neg (by simpa using hn)] at g3
      exact pm_has_mem g3
  next => cases h1
abbrev pm_rmm (d mi : Nat) : Room := { frames := d, cells := (pm_cst mi).1, slots := (pm_cst mi).2, locals := 60 * d }
def pm_Pm (X : pm_X) (F : Value) (D : va_G) (CA : Nat → ClassId) (ad : Nat → Nat) (sh : pm_S) (I : pm_I) (L : pm_L) (R : pm_R) (sz : Nat) (U : State) : Prop :=
  U.heap.size = sz ∧ va_P D vwCl (pm_ws CA ad sh I L R) U.heap ∧ va_D (fun _ => True) (pm_ws CA ad sh I L R) ∧ va_K D vwCl (pm_tys CA) U ∧ pm_FX X F ad (va_A (pm_ws CA ad sh I L R) sz) U U.heap
def pm_Qm (F : Value) (D : va_G) (CA : Nat → ClassId) (ad : Nat → Nat) (mi n : Nat) (A : Nat → Prop) (Q : pm_Q) : Array Value → State → Outcome → State → Prop := fun _ st oc t =>
  (∃ (v : Option Value) (sh : pm_S) (I : pm_I) (L : pm_L) (R : pm_R) (ad' : Nat → Nat), Q v sh I L R ∧ oc = .returned (v.map (pm_cz F ad')) ∧ va_P D vwCl (pm_ws CA ad' sh I L R) t.heap ∧ va_D A (pm_ws CA ad' sh I L R) ∧ sh.length ≤ 1000000 ∧ (∀ a k i, R a k = some i → i < sh.length) ∧ pm_ext ad n mi ad' sh) ∧ va_F A st t
theorem sd_met {X : pm_X} {d mi : Nat} {args : List Value} {sh : pm_S} {I : pm_I} {L : pm_L} {R : pm_R} {Q : pm_Q} {own : Nat} {y : MethodName} {cc : ByteArray} {ml : Nat} {r : Option FieldType} {na : Nat}
    (h : pm_snd X d mi 0 (lv_args 0 args) [] 0 0 sh I L R Q) (hm : pm_ms[mi]? = some (own, y, cc, ml, r, na)) (hlt : mi < 227) (hcat : pm_cat args ≤ ml) (l0 : Launch) {F : Value} (hF : F = .null ∨ ∃ t, F = .ref t) (D : va_G) (CA : Nat → ClassId) (ad : Nat → Nat) (sz : Nat) (hlen : sh.length ≤ 1000000) (hrs : ∀ a k i, R a k = some i → i < sh.length) :
    Met l0 y (Cond.code y cc ml r :: pm_tb) (pm_rmm d mi) (va_Pc (args.map (pm_cz F ad)) (pm_Pm X F D CA ad sh I L R sz)) (pm_Qm F D CA ad mi sh.length (va_A (pm_ws CA ad sh I L R) sz) Q) (pm_cst mi).1 (pm_cst mi).2 (va_A (pm_ws CA ad sh I L R) sz) := by
  obtain ⟨hcode, hcls, -, -, hpl, -, -, -⟩ := pm_mdata hm hlt
  refine Met.ofW (cc := cc) (maxL := ml) (ret := r) hpl rfl ?_
  intro p e s m args' below meth c s₁ B hml hv
  obtain ⟨rfl, hsz, hP, hD0, hK, hFX⟩ := hv
  have hx := B.exec
  have hb := B.bytes
  have hr := B.returns
  have hts := atoms_spec (ws := Cond.code y cc ml r :: pm_tb) B.pre
  have hown : s.vm.findClass y.cls = some m.cls := findClass_of_methodNamed B.named
  have hlocks := B.notSynchronized
  have hnm : meth.name = y.name := (name_of_methodNamed B.named B.method).1
  subst hsz
  have hl := lv_entry (args.map (pm_cz F ad)) (n := ml) (by rw [pm_sl_len]; unfold pm_cat; rw [pm_cat_map hF]; exact hcat)
  rw [lg_entry_eq]
  generalize (lg_sl (args.map (pm_cz F ad)) ++ List.replicate (ml - (lg_sl (args.map (pm_cz F ad))).length) Slot.unset).toArray = ls at hl ⊢
  refine h p l0 e (pm_rmm d mi) s m _ below meth c F (va_A (pm_ws CA ad sh I L R) s.heap.size) D CA ad sh.length s.heap [] ls ad _
    ⟨⟨own, y, cc, ml, r, na, hm, hb, hml, by rw [← hcls]; exact hown, hr, fun q => by rw [hnm, q]⟩, hx, fun w hw => hts w (List.mem_cons_of_mem _ hw), hlocks, Nat.le_refl _, Nat.le_refl _, Nat.le_refl _, Nat.le_refl _, hK, hF, hFX, fun q hq => Or.inr hq⟩
    ⟨hP, hD0.self, va_S.rf, hlen, hrs⟩ ⟨fun _ _ => rfl, Nat.le_refl _, fun _ => rfl⟩ (Nat.zero_le _) (Nat.zero_le _) (by rw [pm_lc_args hF, hml]; exact hl) ?_
  intro v sh' I' L' R' ad' H' locs' pc' ls' c' z' hq hw' hx' hc' hz' hrd
  obtain ⟨hP', hD', hS', hlen', hrs'⟩ := hw'
  refine W.widen hc' hz' ?_
  have fin : ∀ (o : Option Value) (t : State), o = v.map (pm_cz F ad') → t.heap = H' → pm_Qm F D CA ad mi sh.length (va_A (pm_ws CA ad sh I L R) s.heap.size) Q (args.map (pm_cz F ad)).toArray s (.returned o) t := fun o t ho ht =>
    ⟨⟨v, sh', I', L', R', ad', hq, by rw [ho], by rw [ht]; exact hP', hD', hlen', hrs', hx'⟩, hS'.F ht⟩
  obtain ⟨o2, y2, c2, m2, r2, n2, hm2, hcase⟩ := hrd
  rw [hm] at hm2
  cases hm2
  cases v with
  | none => exact W.vret hx hb (by rw [hr]; exact hcase.2) (fun t ht _ => fin none t rfl ht) hS'.2.2 hcase.1 hlocks
  | some v =>
    cases v with
    | int x =>
      obtain ⟨hd, ty, hty, hn⟩ := hcase
      exact W.zret hx hb (by rw [hr]; exact hty) hn (fun t ht _ => fin (some (.int x)) t rfl ht) hS'.2.2 hd hlocks
    | long x => exact W.lret hx hb (by rw [hr]; exact hcase.2) (fun t ht _ => fin (some (.long x)) t rfl ht) hS'.2.2 hcase.1 hlocks
    | ref x =>
      obtain ⟨hd, nm, hty⟩ := hcase
      refine W.aret hx hb (by rw [hr]; exact hty) (Or.inl ⟨nm, rfl⟩) ?_ (fun t ht _ => fin _ t rfl ht) hS'.2.2 hd hlocks
      by_cases h3 : x = 1000003
      · have e1 : pm_cz F ad' (.ref x) = F := by show (if x = 1000003 then F else .ref (ad' x)) = F; rw [if_pos h3]
        rw [e1]
        exact hF
      · exact Or.inr ⟨ad' x, by show (if x = 1000003 then F else .ref (ad' x)) = _; rw [if_neg h3]⟩
    | float _ => exact hcase.elim
    | double _ => exact hcase.elim
    | null => exact hcase.elim
    | retAddr _ => exact hcase.elim
theorem pm_callW {p : Program} {l0 : Launch} {e : Env} {R : Room} {s : State} {m : MethodId} {args : Array Value} {below : List Frame} {meth : Method} {c : Code} {H : Heap} {locs : List Loc} {cells slots mc ms pc : Nat} {ls : Array Slot} {st0 rest : List Value} {Qa : State → Outcome → State → Prop} {free : Addr → Prop} {Q : State → Prop}
    (hr : va_Run p l0 e R s m args below meth c H locs cells slots mc ms (F0 m pc ls st0) rest Qa free)
    (kk : ∀ (v : Option Value) (st₀ t : State) (L : List Loc), st₀.heap = H → (∀ q ∈ L, free q.base) → Qa st₀ (.returned v) t → W p l0 e R s m args below meth c t.heap (locs ++ L) (cells + mc) (slots + ms) Q (F0 m (pc + 3) ls (v.toList ++ rest))) : W p l0 e R s m args below meth c H locs cells slots Q (F0 m pc ls st0) := by
  intro T hT X
  obtain ⟨v, st₀, t, T', L, h0, X', hL, e1, e2, hq, st⟩ := hr T hT X
  obtain ⟨t2, a1, b1⟩ := kk v st₀ t L h0 hL hq T' e1 X'
  exact ⟨t2, st t2 a1, b1⟩
section PMK
variable {X : pm_X} {d mi pc pc' n a b : Nat} {v : Int} {t : List (Int × Nat)} {l l' : pm_l} {st st' : List Value} {c z : Nat} {sh : pm_S} {I : pm_I} {L : pm_L} {R : pm_R} {Q : pm_Q} {own : Nat} {y : MethodName} {cc : ByteArray} {ml : Nat} {r : Option FieldType} {na : Nat}
theorem sd_call (hm : pm_ms[mi]? = some (own, y, cc, ml, r, na)) {cal : Nat} {as rest : List Value} {o2 : Nat} {y2 : MethodName} {c2 : ByteArray} {ml2 : Nat} {r2 : Option FieldType} {na2 : Nat} (hm2 : pm_ms[cal]? = some (o2, y2, c2, ml2, r2, na2)) (hlt : cal < 227)
    (run : ∀ (p : Program) (l0 : Launch) (e : Env) (Rm : Room) (s : State) (m : MethodId) (args : Array Value) (below : List Frame) (meth : Method) (cd : Code) (F : Value) (D : va_G) (CA : Nat → ClassId) (H : Heap) (locs : List Loc) (ls : Array Slot) (ad ad0 : Nat → Nat) (A : Nat → Prop) (cells slots : Nat) (rm : Room) (Pc : Array Value → State → Prop) (Qc : Array Value → State → Outcome → State → Prop) (mc ms : Nat) (free : Addr → Prop),
      p.tables.exec = Jvm.exec → cd.code = cc → cd.maxLocals = ls.size → s.vm.findClass (pm_os own) = some m.cls → (∀ w ∈ pm_tb, w.before args s = true) → va_K D vwCl (pm_tys CA) s → (F = .null ∨ ∃ t, F = .ref t) → pm_FX X F ad0 A s s.heap → pm_hw D CA A s sh I L R ad H locs → (∀ i, 1000000 ≤ i → ad i = ad0 i) →
      Met l0 y2 (Cond.code y2 c2 ml2 r2 :: pm_tb) rm Pc Qc mc ms free → FrameBlind Pc → (∀ U : State, U.heap = H → s.WarmedH U.vm → Pc (as.map (pm_cz F ad)).toArray U) → rm.cells = mc → rm.slots = ms → rm.frames + 1 ≤ Rm.frames ∧ 8 + (ml2 + 11) + rm.locals ≤ Rm.locals →
      ((rest.map (pm_cz F ad)).map fun v => v.category).sum ≤ 8 → cells + mc ≤ Rm.cells ∧ slots + ms ≤ Rm.slots →
      va_Run p l0 e Rm s m args below meth cd H locs cells slots mc ms (F0 m pc ls (st.map (pm_cz F ad))) (rest.map (pm_cz F ad)) (Qc (as.map (pm_cz F ad)).toArray) free)
    (h : pm_call (pm_snd X) (pm_snd X) d mi (pc + 3) l cal as rest c z sh I L R Q) : pm_snd X d mi pc l st c z sh I L R Q := by
  unfold pm_call at h
  split at h
  next => exact h.elim
  next d' =>
  obtain ⟨k1, k2, k3, k4, k5, hC⟩ := h
  obtain ⟨hcode, hcls, -, -, hpl, hm30, hmx, -⟩ := pm_mdata hm2 hlt
  intro p l0 e Rm s m args below meth cd F A D CA ad0 n0 H locs ls ad Qf hcx hw hx hc hz hl fin
  obtain ⟨g1, g2, g3, g4, g5⟩ := pm_cxm hcx hm
  obtain ⟨-, hex, hts, -, hfr, hlo, hrc, hrz, hK, hF, hFX, hA⟩ := id hcx
  obtain ⟨hP, hD, hS, hlen, hrs⟩ := id hw
  have hM := sd_met hC hm2 hlt (by rw [hmx] at k5; exact k5) l0 hF D CA ad H.size hlen hrs
  have hFc : ∀ q, va_A (pm_ws CA ad sh I L R) H.size q → A q := fun q hq => by
    rcases hq with ⟨k, e9, h9⟩ | h9
    · exact hD.2 k (q, e9) h9
    · exact hA q (Nat.le_trans hS.1 h9)
  have hFad : pm_FX X F ad A s s.heap := by
    obtain ⟨a1, a2, a3, a4, a5, a6, a7, a8, a9, b1, b2, b3, b4, b5⟩ := hFX
    have f0 : ∀ i, 1000000 ≤ i → ad i = ad0 i := fun i hi => hx.1 i (Or.inr hi)
    unfold pm_FX
    simp only [f0 1000000 (by omega), f0 1000001 (by omega), f0 1000002 (by omega), fun i => f0 (1000010 + i) (by omega), fun i => f0 (1000020 + i) (by omega)]
    exact ⟨a1, a2, a3, a4, a5, a6, a7, a8, a9, b1, b2, b3, b4, b5⟩
  refine pm_callW (run p l0 e Rm s m args below meth cd F D CA H locs ls ad ad0 A c z (pm_rmm d' cal) _ _ _ _ _ hex g1 hl.1.symm g3 hts hK hF hFX hw (fun i hi => hx.1 i (Or.inr hi)) hM ?_ ?_ rfl rfl ⟨by show d' + 1 ≤ _; omega, by show 8 + (ml2 + 11) + 60 * d' ≤ _; omega⟩ (by rw [pm_cat_map hF]; exact k4) ⟨Nat.le_trans k1 hrc, Nat.le_trans k2 hrz⟩) ?_
  · intro a9 U g mk q
    obtain ⟨q0, q1, qP, qD, qK, qF⟩ := q
    exact ⟨q0, q1, qP, qD, va_K.moved (u := U) (U := U.calling g mk a9) (Vm.Alike.refl U.vm) qK, pm_FX_same (U := U) (U' := U.calling g mk a9) rfl qF⟩
  · intro U hU hW
    exact ⟨rfl, by rw [hU], by rw [hU]; exact hP, hD.weaken (fun _ _ _ _ => trivial), va_K.moved hW.alike hK, by rw [hU]; exact pm_FX_warm hW (pm_FX_to hS hFc hFad)⟩
  · intro w st₀ t9 L9 h0 hL ⟨⟨v', sh', I', L', R', ad', hq, hv, hP', hD', hlen', hrs', hx'⟩, hFr⟩
    have hv' : w = v'.map (pm_cz F ad') := Outcome.returned.inj hv
    subst hv'
    obtain ⟨x1, x2, x3⟩ := hx
    obtain ⟨y1, y2', y3⟩ := hx'
    have hadl : ∀ i, (i < sh.length ∨ 1000000 ≤ i) → ad' i = ad i := y1
    have hlc : pm_lc F ad' l = pm_lc F ad l ∧ rest.map (pm_cz F ad') = rest.map (pm_cz F ad) := by
      rcases k3 with k3 | ⟨k3, k3'⟩
      · rw [y3 k3]; exact ⟨rfl, rfl⟩
      · exact ⟨pm_scl_lc k3 hadl, pm_scv_map k3' hadl⟩
    unfold va_F at hFr
    rw [h0] at hFr
    have hw1 := hq p l0 e Rm s m args below meth cd F A D CA ad0 n0 t9.heap (locs ++ L9) ls ad' Qf hcx
      ⟨hP', hD'.weaken (fun _ _ _ h => hFc _ h), ⟨Nat.le_trans hS.1 hFr.1, fun q h1 h2 => by rw [hFr.2 q (Nat.lt_of_lt_of_le h1 hS.1) (fun z9 => h2 (hFc q z9))]; exact hS.2.1 q h1 h2, fun q hq9 => by
        rcases List.mem_append.mp hq9 with h9 | h9
        · exact hS.2.2 q h9
        · exact hFc _ (hL q h9)⟩, hlen', hrs'⟩
      ⟨fun i hi => by rw [y1 i (by omega)]; exact x1 i hi, Nat.le_trans x2 y2', fun h9 => by rw [y3 (by omega)]; exact x3 h9⟩ k1 k2 (by rw [hlc.1]; exact hl) fin
    rw [List.map_append, hlc.2] at hw1
    cases v' with
    | none => exact hw1
    | some v' => exact hw1
end PMK
