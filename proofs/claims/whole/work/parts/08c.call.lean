/-! SOUNDNESS of what makes cells, of switches, copies, statics, returns -/
theorem pm_scl_lc {F : Value} {ad ad' : Nat → Nat} {n : Nat} {l : pm_l} (h : pm_scl n l) (he : ∀ i, (i < n ∨ 1000000 ≤ i) → ad' i = ad i) : pm_lc F ad' l = pm_lc F ad l := by
  unfold pm_lc
  apply List.map_congr_left
  intro q hq
  have h1 := h q hq
  obtain ⟨k, w⟩ := q
  show (k, pm_cz F ad' w) = (k, pm_cz F ad w)
  congr 1
  unfold pm_cz
  cases w <;> try rfl
  next i =>
    show (if i = 1000003 then F else .ref (ad' i)) = if i = 1000003 then F else .ref (ad i)
    rw [he i (h1 i rfl)]
theorem pm_scv_map {F : Value} {ad ad' : Nat → Nat} {n : Nat} {st : List Value} (h : pm_scv n st) (he : ∀ i, (i < n ∨ 1000000 ≤ i) → ad' i = ad i) : st.map (pm_cz F ad') = st.map (pm_cz F ad) := by
  apply List.map_congr_left
  intro w hw
  have h1 := h w hw
  unfold pm_cz
  cases w <;> try rfl
  next i =>
    show (if i = 1000003 then F else .ref (ad' i)) = if i = 1000003 then F else .ref (ad i)
    rw [he i (h1 i rfl)]
/-- one cell more -/
theorem pm_ws_push {CA : Nat → ClassId} {ad : Nat → Nat} {sh : pm_S} {I : pm_I} {L : pm_L} {R : pm_R} {q : Nat} {x : Nat × Nat} {e : va_E} (hrs : ∀ a k i, R a k = some i → i < sh.length)
    (he : pm_ce CA (pm_up ad sh.length q) (pm_up I sh.length (fun _ => 0)) (pm_up L sh.length (fun _ => 0)) (pm_up R sh.length (fun _ => none)) sh.length x = e) :
    pm_ws CA ad sh I L R ++ [(q, e)] = pm_ws CA (pm_up ad sh.length q) (sh ++ [x]) (pm_up I sh.length (fun _ => 0)) (pm_up L sh.length (fun _ => 0)) (pm_up R sh.length (fun _ => none)) := by
  unfold pm_ws
  refine pm_map_push (by rw [he, pm_up_eq]) (fun a y ha => ?_)
  have hne : a ≠ sh.length := Nat.ne_of_lt ha
  rw [pm_up_ne hne, pm_ce_cg y (pm_up_ne hne) (pm_up_ne hne) (pm_up_ne hne)]
  have hm : ∀ j, (R a j).map (pm_up ad sh.length q) = (R a j).map ad := by
    intro j
    cases hj : R a j with
    | none => rfl
    | some i => show some (pm_up ad sh.length q i) = some (ad i); rw [pm_up_ne (Nat.ne_of_lt (hrs a j i hj))]
  unfold pm_ce pm_ob
  simp only [hm]
theorem pm_push_rs {sh : pm_S} {R : pm_R} {x : Nat × Nat} (hrs : ∀ a k i, R a k = some i → i < sh.length) : ∀ a k i, pm_up R sh.length (fun _ => none) a k = some i → i < (sh ++ [x]).length := by
  intro a k i h
  rw [List.length_append]
  by_cases ha : a = sh.length
  · subst ha
    rw [pm_up_eq] at h
    cases h
  · rw [pm_up_ne ha] at h
    exact Nat.lt_of_lt_of_le (hrs a k i h) (Nat.le_add_right _ _)
theorem pm_push_ext {ad0 ad : Nat → Nat} {n0 mi q c : Nat} {sh : pm_S} {x : Nat × Nat} (hx : pm_ext ad0 n0 mi ad sh) (hn : sh.length < 1000000) (hc : c + 1 ≤ (pm_cst mi).1) : pm_ext ad0 n0 mi (pm_up ad sh.length q) (sh ++ [x]) := by
  obtain ⟨h1, h2, h3⟩ := hx
  refine ⟨fun i hi => ?_, ?_, fun h => by omega⟩
  · rw [pm_up_ne (by omega)]
    exact h1 i hi
  · rw [List.length_append]
    exact Nat.le_trans h2 (Nat.le_add_right _ _)
theorem pm_push_eq {ad : Nat → Nat} {n q : Nat} (hn : n < 1000000) : ∀ i, (i < n ∨ 1000000 ≤ i) → pm_up ad n q i = ad i := fun i hi => pm_up_ne (by omega)
section PMC
variable {X : pm_X} {d mi pc pc' n a b : Nat} {v : Int} {t : List (Int × Nat)} {l l' : pm_l} {st st' : List Value} {c z : Nat} {sh : pm_S} {I : pm_I} {L : pm_L} {R : pm_R} {Q : pm_Q} {own : Nat} {y : MethodName} {cc : ByteArray} {ml : Nat} {r : Option FieldType} {na : Nat}
theorem sd_newarray_int (hm : pm_ms[mi]? = some (own, y, cc, ml, r, na)) (hd : decode cc pc = .ok (.newarray .int, 2)) (ha : a = 1) (h : pm_step X (pm_snd X) (pm_snd X) (.newarray .int, 2, a, b, v, t) d mi pc l st c z sh I L R Q) : pm_snd X d mi pc l st c z sh I L R Q := by
  subst ha
  simp only [pm_step] at h
  split at h
  next x rest =>
    intro p l0 e Rm s m args below meth cd F A D CA ad0 n0 H locs ls ad Qf hcx hw hx hc hz hl fin
    obtain ⟨g1, g2, g3, g4, g5⟩ := pm_cxm hcx hm
    obtain ⟨-, hex, hts, -, -, -, hrc, hrz, hK, hF, hFX, hA⟩ := id hcx
    obtain ⟨hP, hD, hS, hlen, hrs⟩ := id hw
    obtain ⟨hx0, ⟨k1, k2, k3, k4, k5, k6⟩, h⟩ := h
    have hcb : componentBytes .int = 4 := rfl
    refine va_newa (atype := .int) (ty := .int) (a0 := (x.toNatClampNeg, .inl (fun _ => 0))) (N' := x.toNatClampNeg) hex g1 (hts _ pm_w_ari) rfl hK hP hD hS hA (fun cA => rfl) (Int32.not_lt.mpr hx0) rfl (by rw [hcb]; omega) (Nat.le_trans k1 hrc) (Nat.le_trans k2 hrz) hd (fun q cA H1 hK1 hP1 hD1 hS1 => ?_)
    have ecA : cA = CA 1 := by
      have e1 : s.vm.findClass ("[" ++ FieldType.toString .int) = some cA := (hK1.2 5 (cA, .int) rfl).2
      have e2 : s.vm.findClass ("[" ++ FieldType.toString .int) = some (CA 1) := (hK.2 0 (CA 1, .int) rfl).2
      exact Option.some.inj (e1.symm.trans e2)
    subst ecA
    rw [pm_ws_push (x := (1, x.toNatClampNeg)) hrs (by show (Sum.inl _ : va_E) = _; simp only [pm_up_eq])] at hP1 hD1
    have hw1 := h p l0 e Rm s m args below meth cd F A D CA ad0 n0 H1 locs ls (pm_up ad sh.length q) Qf hcx ⟨hP1, hD1, hS1, by rw [List.length_append]; exact k4, pm_push_rs hrs⟩ (pm_push_ext hx k4 k1) k1 k2 (by rw [pm_scl_lc k5 (pm_push_eq k4)]; exact hl) fin
    rw [List.map_cons, pm_scv_map k6 (pm_push_eq k4), pm_czr (Nat.ne_of_lt (Nat.lt_trans k4 (by omega))), pm_up_eq] at hw1
    exact hw1
  next => exact h.elim
theorem sd_newarray_bool (hm : pm_ms[mi]? = some (own, y, cc, ml, r, na)) (hd : decode cc pc = .ok (.newarray .boolean, 2)) (ha : a = 2) (h : pm_step X (pm_snd X) (pm_snd X) (.newarray .boolean, 2, a, b, v, t) d mi pc l st c z sh I L R Q) : pm_snd X d mi pc l st c z sh I L R Q := by
  subst ha
  simp only [pm_step] at h
  split at h
  next x rest =>
    intro p l0 e Rm s m args below meth cd F A D CA ad0 n0 H locs ls ad Qf hcx hw hx hc hz hl fin
    obtain ⟨g1, g2, g3, g4, g5⟩ := pm_cxm hcx hm
    obtain ⟨-, hex, hts, -, -, -, hrc, hrz, hK, hF, hFX, hA⟩ := id hcx
    obtain ⟨hP, hD, hS, hlen, hrs⟩ := id hw
    obtain ⟨hx0, ⟨k1, k2, k3, k4, k5, k6⟩, h⟩ := h
    have hcb : componentBytes .boolean = 1 := rfl
    refine va_newa (atype := .boolean) (ty := .boolean) (a0 := (x.toNatClampNeg, .inl (fun _ => 0))) (N' := x.toNatClampNeg) hex g1 (hts _ pm_w_arz) rfl hK hP hD hS hA (fun cA => rfl) (Int32.not_lt.mpr hx0) rfl (by rw [hcb]; omega) (Nat.le_trans k1 hrc) (Nat.le_trans k2 hrz) hd (fun q cA H1 hK1 hP1 hD1 hS1 => ?_)
    have ecA : cA = CA 2 := by
      have e1 : s.vm.findClass ("[" ++ FieldType.toString .boolean) = some cA := (hK1.2 5 (cA, .boolean) rfl).2
      have e2 : s.vm.findClass ("[" ++ FieldType.toString .boolean) = some (CA 2) := (hK.2 1 (CA 2, .boolean) rfl).2
      exact Option.some.inj (e1.symm.trans e2)
    subst ecA
    rw [pm_ws_push (x := (2, x.toNatClampNeg)) hrs (by show (Sum.inl _ : va_E) = _; simp only [pm_up_eq])] at hP1 hD1
    have hw1 := h p l0 e Rm s m args below meth cd F A D CA ad0 n0 H1 locs ls (pm_up ad sh.length q) Qf hcx ⟨hP1, hD1, hS1, by rw [List.length_append]; exact k4, pm_push_rs hrs⟩ (pm_push_ext hx k4 k1) k1 k2 (by rw [pm_scl_lc k5 (pm_push_eq k4)]; exact hl) fin
    rw [List.map_cons, pm_scv_map k6 (pm_push_eq k4), pm_czr (Nat.ne_of_lt (Nat.lt_trans k4 (by omega))), pm_up_eq] at hw1
    exact hw1
  next => exact h.elim
theorem sd_newarray_long (hm : pm_ms[mi]? = some (own, y, cc, ml, r, na)) (hd : decode cc pc = .ok (.newarray .long, 2)) (ha : a = 3) (h : pm_step X (pm_snd X) (pm_snd X) (.newarray .long, 2, a, b, v, t) d mi pc l st c z sh I L R Q) : pm_snd X d mi pc l st c z sh I L R Q := by
  subst ha
  simp only [pm_step] at h
  split at h
  next x rest =>
    intro p l0 e Rm s m args below meth cd F A D CA ad0 n0 H locs ls ad Qf hcx hw hx hc hz hl fin
    obtain ⟨g1, g2, g3, g4, g5⟩ := pm_cxm hcx hm
    obtain ⟨-, hex, hts, -, -, -, hrc, hrz, hK, hF, hFX, hA⟩ := id hcx
    obtain ⟨hP, hD, hS, hlen, hrs⟩ := id hw
    obtain ⟨hx0, ⟨k1, k2, k3, k4, k5, k6⟩, h⟩ := h
    have hcb : componentBytes .long = 8 := rfl
    refine va_newa (atype := .long) (ty := .long) (a0 := (x.toNatClampNeg, .inr (.inl (fun _ => 0)))) (N' := x.toNatClampNeg) hex g1 (hts _ pm_w_arl) rfl hK hP hD hS hA (fun cA => rfl) (Int32.not_lt.mpr hx0) rfl (by rw [hcb]; omega) (Nat.le_trans k1 hrc) (Nat.le_trans k2 hrz) hd (fun q cA H1 hK1 hP1 hD1 hS1 => ?_)
    have ecA : cA = CA 3 := by
      have e1 : s.vm.findClass ("[" ++ FieldType.toString .long) = some cA := (hK1.2 5 (cA, .long) rfl).2
      have e2 : s.vm.findClass ("[" ++ FieldType.toString .long) = some (CA 3) := (hK.2 2 (CA 3, .long) rfl).2
      exact Option.some.inj (e1.symm.trans e2)
    subst ecA
    rw [pm_ws_push (x := (3, x.toNatClampNeg)) hrs (by show (Sum.inl _ : va_E) = _; simp only [pm_up_eq])] at hP1 hD1
    have hw1 := h p l0 e Rm s m args below meth cd F A D CA ad0 n0 H1 locs ls (pm_up ad sh.length q) Qf hcx ⟨hP1, hD1, hS1, by rw [List.length_append]; exact k4, pm_push_rs hrs⟩ (pm_push_ext hx k4 k1) k1 k2 (by rw [pm_scl_lc k5 (pm_push_eq k4)]; exact hl) fin
    rw [List.map_cons, pm_scv_map k6 (pm_push_eq k4), pm_czr (Nat.ne_of_lt (Nat.lt_trans k4 (by omega))), pm_up_eq] at hw1
    exact hw1
  next => exact h.elim
theorem sd_anewarray_2 (hm : pm_ms[mi]? = some (own, y, cc, ml, r, na)) {k : Nat} (hd : decode cc pc = .ok (.anewarray k, 3)) (ha : a = 6) (hcl : Cond.classLink (pm_os own) k RX2 ∈ pm_tb) (h : pm_step X (pm_snd X) (pm_snd X) (.anewarray k, 3, a, b, v, t) d mi pc l st c z sh I L R Q) : pm_snd X d mi pc l st c z sh I L R Q := by
  subst ha
  simp only [pm_step] at h
  split at h
  next x rest =>
    intro p l0 e Rm s m args below meth cd F A D CA ad0 n0 H locs ls ad Qf hcx hw hx hc hz hl fin
    obtain ⟨g1, g2, g3, g4, g5⟩ := pm_cxm hcx hm
    obtain ⟨-, hex, hts, -, -, -, hrc, hrz, hK, hF, hFX, hA⟩ := id hcx
    obtain ⟨hP, hD, hS, hlen, hrs⟩ := id hw
    obtain ⟨-, -, -, -, -, -, -, -, -, -, -, -, hao2, hao6⟩ := hFX
    obtain ⟨hx0, ⟨k1, k2, k3, k4, k5, k6⟩, h⟩ := h
    refine va_newq (C := RX2) (N' := x.toNatClampNeg) hex g1 g3 (hts _ hcl) hao2 hK hP hD hS hA (Int32.not_lt.mpr hx0) rfl (by omega) (Nat.le_trans k1 hrc) (Nat.le_trans k2 hrz) hd (fun q cA H1 hK1 hP1 hD1 hS1 => ?_)
    have ecA : cA = CA 6 := by
      obtain ⟨-, -, -, -, -, e1⟩ := (hK1.2 5 (cA, .object RX2) rfl).2
      obtain ⟨-, -, -, -, -, e2⟩ := (hK.2 3 (CA 6, .object RX2) rfl).2
      exact Option.some.inj (e1.symm.trans e2)
    subst ecA
    rw [pm_ws_push (x := (6, x.toNatClampNeg)) hrs (by show (Sum.inl _ : va_E) = _; simp only [pm_up_eq]; rfl)] at hP1 hD1
    have hw1 := h p l0 e Rm s m args below meth cd F A D CA ad0 n0 H1 locs ls (pm_up ad sh.length q) Qf hcx ⟨hP1, hD1, hS1, by rw [List.length_append]; exact k4, pm_push_rs hrs⟩ (pm_push_ext hx k4 k1) k1 k2 (by rw [pm_scl_lc k5 (pm_push_eq k4)]; exact hl) fin
    rw [List.map_cons, pm_scv_map k6 (pm_push_eq k4), pm_czr (Nat.ne_of_lt (Nat.lt_trans k4 (by omega))), pm_up_eq] at hw1
    exact hw1
  next => exact h.elim
theorem sd_anewarray_6 (hm : pm_ms[mi]? = some (own, y, cc, ml, r, na)) {k : Nat} (hd : decode cc pc = .ok (.anewarray k, 3)) (ha : a = 10) (hcl : Cond.classLink (pm_os own) k RX6 ∈ pm_tb) (h : pm_step X (pm_snd X) (pm_snd X) (.anewarray k, 3, a, b, v, t) d mi pc l st c z sh I L R Q) : pm_snd X d mi pc l st c z sh I L R Q := by
  subst ha
  simp only [pm_step] at h
  split at h
  next x rest =>
    intro p l0 e Rm s m args below meth cd F A D CA ad0 n0 H locs ls ad Qf hcx hw hx hc hz hl fin
    obtain ⟨g1, g2, g3, g4, g5⟩ := pm_cxm hcx hm
    obtain ⟨-, hex, hts, -, -, -, hrc, hrz, hK, hF, hFX, hA⟩ := id hcx
    obtain ⟨hP, hD, hS, hlen, hrs⟩ := id hw
    obtain ⟨-, -, -, -, -, -, -, -, -, -, -, -, hao2, hao6⟩ := hFX
    obtain ⟨hx0, ⟨k1, k2, k3, k4, k5, k6⟩, h⟩ := h
    refine va_newq (C := RX6) (N' := x.toNatClampNeg) hex g1 g3 (hts _ hcl) hao6 hK hP hD hS hA (Int32.not_lt.mpr hx0) rfl (by omega) (Nat.le_trans k1 hrc) (Nat.le_trans k2 hrz) hd (fun q cA H1 hK1 hP1 hD1 hS1 => ?_)
    have ecA : cA = CA 10 := by
      obtain ⟨-, -, -, -, -, e1⟩ := (hK1.2 5 (cA, .object RX6) rfl).2
      obtain ⟨-, -, -, -, -, e2⟩ := (hK.2 4 (CA 10, .object RX6) rfl).2
      exact Option.some.inj (e1.symm.trans e2)
    subst ecA
    rw [pm_ws_push (x := (10, x.toNatClampNeg)) hrs (by show (Sum.inl _ : va_E) = _; simp only [pm_up_eq]; rfl)] at hP1 hD1
    have hw1 := h p l0 e Rm s m args below meth cd F A D CA ad0 n0 H1 locs ls (pm_up ad sh.length q) Qf hcx ⟨hP1, hD1, hS1, by rw [List.length_append]; exact k4, pm_push_rs hrs⟩ (pm_push_ext hx k4 k1) k1 k2 (by rw [pm_scl_lc k5 (pm_push_eq k4)]; exact hl) fin
    rw [List.map_cons, pm_scv_map k6 (pm_push_eq k4), pm_czr (Nat.ne_of_lt (Nat.lt_trans k4 (by omega))), pm_up_eq] at hw1
    exact hw1
  next => exact h.elim
theorem sd_new (hm : pm_ms[mi]? = some (own, y, cc, ml, r, na)) {k : Nat} (hd : decode cc pc = .ok (.new k, 3)) (hr : pm_res own y r pc (.new k, 3, a, b, v, t) = true) (h : pm_step X (pm_snd X) (pm_snd X) (.new k, 3, a, b, v, t) d mi pc l st c z sh I L R Q) : pm_snd X d mi pc l st c z sh I L R Q := by
  have hr' : a < 9 ∧ b = pm_nf a ∧ pm_kl.any (fun q => q.1 == own && (q.2.1 == k && q.2.2.1 == a)) = true := by
    simp only [pm_res, Bool.and_eq_true, decide_eq_true_eq, beq_iff_eq] at hr
    exact ⟨hr.1, hr.2.1, hr.2.2⟩
  obtain ⟨ha9, rfl, hkl⟩ := hr'
  obtain ⟨q9, hq9, hqe⟩ := List.any_eq_true.mp hkl
  simp only [Bool.and_eq_true, beq_iff_eq] at hqe
  have hkw := List.all_eq_true.mp pm_kl_w q9 hq9
  simp only [Bool.and_eq_true, decide_eq_true_eq] at hkw
  have hcl := pm_has_mem hkw.1
  rw [hqe.1, hqe.2.1, hqe.2.2] at hcl
  obtain ⟨hvc, hin, hty, hnm, hins, hini, hkk⟩ := pm_cls ha9
  simp only [pm_step] at h
  intro p l0 e Rm s m args below meth cd F A D CA ad0 n0 H locs ls ad Qf hcx hw hx hc hz hl fin
  obtain ⟨g1, g2, g3, g4, g5⟩ := pm_cxm hcx hm
  obtain ⟨-, hex, hts, -, -, -, hrc, hrz, hK, hF, hFX, hA⟩ := id hcx
  obtain ⟨hP, hD, hS, hlen, hrs⟩ := id hw
  obtain ⟨⟨k1, k2, k3, k4, k5, k6⟩, h⟩ := h
  refine va_new (ci := a) (C := pm_os a) (T := pm_T a) (N := pm_nf a) (fs := pm_ob (pm_up ad sh.length 0) (pm_up I sh.length (fun _ => 0)) (pm_up R sh.length (fun _ => none)) sh.length a) hex g1 hts hin (pm_ty a) hty g3 (hts _ hcl) (hts _ hins) (hts _ hini) hK hP hD hS hA hvc (fun j hj => ?_) (Nat.le_trans k1 hrc) (Nat.le_trans k2 hrz) hd (fun q H1 hP1 hD1 hS1 => ?_)
  · unfold vp_V
    rw [List.getD_eq_getElem?_getD, pm_ob_at hj]
    rcases hkk j hj with ⟨h1, h2⟩ | ⟨h1, h2⟩ | ⟨h1, ⟨n9, h2⟩ | ⟨n9, h2⟩⟩
    · rw [h2, if_neg (by omega), pm_up_eq]; rfl
    · rw [h2, if_neg (by omega), pm_up_eq]; rfl
    · rw [h2, if_pos h1, pm_up_eq]; rfl
    · rw [h2, if_pos h1, pm_up_eq]; rfl
  · have eq0 : pm_ob (pm_up ad sh.length 0) (pm_up I sh.length (fun _ => 0)) (pm_up R sh.length (fun _ => none)) sh.length a = pm_ob (pm_up ad sh.length q) (pm_up I sh.length (fun _ => 0)) (pm_up R sh.length (fun _ => none)) sh.length a := by
      unfold pm_ob
      simp only [pm_up_eq, Option.map_none]
    rw [eq0, pm_ws_push (L := L) (x := (0, a)) hrs (by rfl)] at hP1 hD1
    have hw1 := h p l0 e Rm s m args below meth cd F A D CA ad0 n0 H1 locs ls (pm_up ad sh.length q) Qf hcx ⟨hP1, hD1, hS1, by rw [List.length_append]; exact k4, pm_push_rs hrs⟩ (pm_push_ext hx k4 k1) k1 k2 (by rw [pm_scl_lc k5 (pm_push_eq k4)]; exact hl) fin
    rw [List.map_cons, pm_scv_map k6 (pm_push_eq k4), pm_czr (Nat.ne_of_lt (Nat.lt_trans k4 (by omega))), pm_up_eq] at hw1
    exact hw1
theorem sd_max (hm : pm_ms[mi]? = some (own, y, cc, ml, r, na)) {k : Nat} (hd : decode cc pc = .ok (.invokestatic k, 3)) (hlk : Cond.methodLink (pm_os own) k Lib.Math.max.name ∈ pm_tb) {x x2 : Int32} {rest : List Value} (h1 : 1 ≤ d) (h2 : pm_cat rest ≤ 8) (h : pm_snd X d mi (pc + 3) l (.int (if x < x2 then x2 else x) :: rest) c z sh I L R Q) : pm_snd X d mi pc l (.int x2 :: .int x :: rest) c z sh I L R Q := by
  intro p l0 e Rm s m args below meth cd F A D CA ad0 n0 H locs ls ad Qf hcx hw hx hc hz hl fin
  obtain ⟨g1, g2, g3, g4, g5⟩ := pm_cxm hcx hm
  obtain ⟨-, hex, hts, -, hfr, hlo, hrc, hrz, hK, hF, hFX, hA⟩ := id hcx
  have hcat : ((rest.map (pm_cz F ad)).map fun v => v.category).sum ≤ 8 := by rw [List.map_map, show ((fun v : Value => v.category) ∘ pm_cz F ad) = fun v => v.category from funext fun v => pm_cz_cat hF ad v]; exact h2
  exact va_mmax hex g1 (by rw [hl.1]) g3 (hts _ hlk) (hts _ pm_w_maxs) (hts _ pm_w_mini) (hts _ pm_w_maxc) (by omega) (by omega) (by omega) (by omega) hd (h p l0 e Rm s m args below meth cd F A D CA ad0 n0 H locs ls ad Qf hcx hw hx hc hz hl fin)
theorem sd_min (hm : pm_ms[mi]? = some (own, y, cc, ml, r, na)) {k : Nat} (hd : decode cc pc = .ok (.invokestatic k, 3)) (hlk : Cond.methodLink (pm_os own) k Lib.Math.min.name ∈ pm_tb) {x x2 : Int32} {rest : List Value} (h1 : 1 ≤ d) (h2 : pm_cat rest ≤ 8) (h : pm_snd X d mi (pc + 3) l (.int (if x2 < x then x2 else x) :: rest) c z sh I L R Q) : pm_snd X d mi pc l (.int x2 :: .int x :: rest) c z sh I L R Q := by
  intro p l0 e Rm s m args below meth cd F A D CA ad0 n0 H locs ls ad Qf hcx hw hx hc hz hl fin
  obtain ⟨g1, g2, g3, g4, g5⟩ := pm_cxm hcx hm
  obtain ⟨-, hex, hts, -, hfr, hlo, hrc, hrz, hK, hF, hFX, hA⟩ := id hcx
  have hcat : ((rest.map (pm_cz F ad)).map fun v => v.category).sum ≤ 8 := by rw [List.map_map, show ((fun v : Value => v.category) ∘ pm_cz F ad) = fun v => v.category from funext fun v => pm_cz_cat hF ad v]; exact h2
  exact va_mmin hex g1 (by rw [hl.1]) g3 (hts _ hlk) (hts _ pm_w_mins) (hts _ pm_w_mini) (hts _ pm_w_minc) (by omega) (by omega) (by omega) (by omega) hd (h p l0 e Rm s m args below meth cd F A D CA ad0 n0 H locs ls ad Qf hcx hw hx hc hz hl fin)
theorem sd_abs (hm : pm_ms[mi]? = some (own, y, cc, ml, r, na)) {k : Nat} (hd : decode cc pc = .ok (.invokestatic k, 3)) (hlk : Cond.methodLink (pm_os own) k Lib.Math.abs.name ∈ pm_tb) {x : Int32} {rest : List Value} (h1 : 1 ≤ d) (h2 : pm_cat rest ≤ 8) (h : pm_snd X d mi (pc + 3) l (.int (if 0 ≤ x then x else 0 - x) :: rest) c z sh I L R Q) : pm_snd X d mi pc l (.int x :: rest) c z sh I L R Q := by
  intro p l0 e Rm s m args below meth cd F A D CA ad0 n0 H locs ls ad Qf hcx hw hx hc hz hl fin
  obtain ⟨g1, g2, g3, g4, g5⟩ := pm_cxm hcx hm
  obtain ⟨-, hex, hts, -, hfr, hlo, hrc, hrz, hK, hF, hFX, hA⟩ := id hcx
  have hcat : ((rest.map (pm_cz F ad)).map fun v => v.category).sum ≤ 8 := by rw [List.map_map, show ((fun v : Value => v.category) ∘ pm_cz F ad) = fun v => v.category from funext fun v => pm_cz_cat hF ad v]; exact h2
  exact va_mabs hex g1 (by rw [hl.1]) g3 (hts _ hlk) (hts _ pm_w_abss) (hts _ pm_w_mini) (hts _ pm_w_absc) (by omega) (by omega) (by omega) (by omega) hd (h p l0 e Rm s m args below meth cd F A D CA ad0 n0 H locs ls ad Qf hcx hw hx hc hz hl fin)
theorem sd_objinit (hm : pm_ms[mi]? = some (own, y, cc, ml, r, na)) {k : Nat} (hd : decode cc pc = .ok (.invokespecial k, 3)) (hlk : Cond.methodLink (pm_os own) k objectInit ∈ pm_tb) {x : Nat} {rest : List Value} (hx3 : x ≠ 1000003) (h1 : 1 ≤ d) (h2 : pm_cat rest ≤ 8) (h : pm_snd X d mi (pc + 3) l rest c z sh I L R Q) : pm_snd X d mi pc l (.ref x :: rest) c z sh I L R Q := by
  intro p l0 e Rm s m args below meth cd F A D CA ad0 n0 H locs ls ad Qf hcx hw hx hc hz hl fin
  obtain ⟨g1, g2, g3, g4, g5⟩ := pm_cxm hcx hm
  obtain ⟨-, hex, hts, -, hfr, hlo, hrc, hrz, hK, hF, hFX, hA⟩ := id hcx
  have hcat : ((rest.map (pm_cz F ad)).map fun v => v.category).sum ≤ 8 := by rw [List.map_map, show ((fun v : Value => v.category) ∘ pm_cz F ad) = fun v => v.category from funext fun v => pm_cz_cat hF ad v]; exact h2
  show W p l0 e Rm s m args below meth cd H locs c z Qf (F0 m pc ls (pm_cz F ad (.ref x) :: rest.map (pm_cz F ad)))
  rw [pm_czr hx3]
  refine W.objInit hex g1 g3 (hts _ hlk) (hts _ pm_w_oini) (hts _ pm_w_oic) (g := F0 m pc ls (.ref (ad x) :: rest.map (pm_cz F ad))) rfl (by rw [← hl.1]) rfl hd (by omega) (by show 2 * 0 + _ + 12 ≤ _; omega) ?_
  exact h p l0 e Rm s m args below meth cd F A D CA ad0 n0 H locs ls ad Qf hcx hw hx hc hz hl fin
theorem sd_copyi (hm : pm_ms[mi]? = some (own, y, cc, ml, r, na)) {k : Nat} (hd : decode cc pc = .ok (.invokestatic k, 3)) (hlk : Cond.methodLink (pm_os own) k arraycopyName ∈ pm_tb) {k0 dp sp : Int32} {r1 r2 : Nat} {rest : List Value} (h1 : 1 ≤ d) (h2 : pm_cat rest ≤ 8) (hk1 : pm_isk sh[r1]? 1) (hk2 : pm_isk sh[r2]? 1) (p1 : ¬ sp < 0) (p2 : ¬ dp < 0) (p3 : ¬ k0 < 0) (p4 : sp.toNatClampNeg + k0.toNatClampNeg ≤ pm_ln sh[r1]? 1) (p5 : dp.toNatClampNeg + k0.toNatClampNeg ≤ pm_ln sh[r2]? 1)
    (h : pm_snd X d mi (pc + 3) l rest c z sh (pm_up I r2 (va_cpy (I r1) (I r2) sp.toNatClampNeg dp.toNatClampNeg k0.toNatClampNeg)) (L) R Q) : pm_snd X d mi pc l (.int k0 :: .int dp :: .ref r2 :: .int sp :: .ref r1 :: rest) c z sh I L R Q := by
  intro p l0 e Rm s m args below meth cd F A D CA ad0 n0 H locs ls ad Qf hcx hw hx hc hz hl fin
  obtain ⟨g1, g2, g3, g4, g5⟩ := pm_cxm hcx hm
  obtain ⟨-, hex, hts, -, hfr, hlo, hrc, hrz, hK, hF, hFX, hA⟩ := id hcx
  obtain ⟨hP, hD, hS, hlen, hrs⟩ := id hw
  have hcat : ((rest.map (pm_cz F ad)).map fun v => v.category).sum ≤ 8 := by rw [List.map_map, show ((fun v : Value => v.category) ∘ pm_cz F ad) = fun v => v.category from funext fun v => pm_cz_cat hF ad v]; exact h2
  have sub : ∀ {o : Option (Nat × Nat)} {j : Nat}, pm_isk o j → o = some (j, pm_ln o j) := by
    intro o j ho
    unfold pm_isk at ho
    split at ho
    next j' n' => subst ho; simp [pm_ln]
    next => exact ho.elim
  have s1 := sub hk1
  have s2 := sub hk2
  generalize pm_ln sh[r1]? 1 = n1 at s1 p4
  generalize pm_ln sh[r2]? 1 = n2 at s2 p5
  have l1 := pm_len1 s1
  have l2 := pm_len1 s2
  have hnf : nativeFrameWords "java/lang/System" "arraycopy" 5 = 7 := by decide +kernel
  show W p l0 e Rm s m args below meth cd H locs c z Qf (F0 m pc ls (.int k0 :: .int dp :: pm_cz F ad (.ref r2) :: .int sp :: pm_cz F ad (.ref r1) :: rest.map (pm_cz F ad)))
  rw [pm_czr (i := r2) (by omega), pm_czr (i := r1) (by omega)]
  refine va_copyi hex g1 (by rw [hl.1]) g3 (hts _ hlk) (hts _ pm_w_acn) (hts _ pm_w_acs) (hts _ pm_w_sysi) hK hP hD hS r1 r2 0 0 (pm_ws_at s1) (pm_ws_at s2) (rfl : (pm_tys CA)[0]? = some (CA 1, .int)) (rfl : (pm_tys CA)[0]? = some (CA 1, .int)) rfl p1 p2 p3 p4 p5 (fun _ _ => rfl) (by omega) (by rw [hnf]; omega) hd (fun H1 locs1 hP1 hD1 hS1 => ?_)
  rw [pm_ws_set (I' := pm_up I r2 (va_cpy (I r1) (I r2) sp.toNatClampNeg dp.toNatClampNeg k0.toNatClampNeg)) (L' := L) (R' := R) s2 (by show (Sum.inl (CA 1, n2, .inl ((pm_up I r2 (va_cpy (I r1) (I r2) sp.toNatClampNeg dp.toNatClampNeg k0.toNatClampNeg)) r2)) : va_E) = _; rw [pm_up_eq]) (fun q hq => pm_up_ne hq) (fun q hq => rfl) (fun _ _ => rfl)] at hP1 hD1
  exact h p l0 e Rm s m args below meth cd F A D CA ad0 n0 H1 locs1 ls ad Qf hcx ⟨hP1, hD1, hS1, hlen, hrs⟩ hx hc hz hl fin
theorem sd_copyl (hm : pm_ms[mi]? = some (own, y, cc, ml, r, na)) {k : Nat} (hd : decode cc pc = .ok (.invokestatic k, 3)) (hlk : Cond.methodLink (pm_os own) k arraycopyName ∈ pm_tb) {k0 dp sp : Int32} {r1 r2 : Nat} {rest : List Value} (h1 : 1 ≤ d) (h2 : pm_cat rest ≤ 8) (hk1 : pm_isk sh[r1]? 3) (hk2 : pm_isk sh[r2]? 3) (p1 : ¬ sp < 0) (p2 : ¬ dp < 0) (p3 : ¬ k0 < 0) (p4 : sp.toNatClampNeg + k0.toNatClampNeg ≤ pm_ln sh[r1]? 3) (p5 : dp.toNatClampNeg + k0.toNatClampNeg ≤ pm_ln sh[r2]? 3)
    (h : pm_snd X d mi (pc + 3) l rest c z sh (I) (pm_up L r2 (va_cpy (L r1) (L r2) sp.toNatClampNeg dp.toNatClampNeg k0.toNatClampNeg)) R Q) : pm_snd X d mi pc l (.int k0 :: .int dp :: .ref r2 :: .int sp :: .ref r1 :: rest) c z sh I L R Q := by
  intro p l0 e Rm s m args below meth cd F A D CA ad0 n0 H locs ls ad Qf hcx hw hx hc hz hl fin
  obtain ⟨g1, g2, g3, g4, g5⟩ := pm_cxm hcx hm
  obtain ⟨-, hex, hts, -, hfr, hlo, hrc, hrz, hK, hF, hFX, hA⟩ := id hcx
  obtain ⟨hP, hD, hS, hlen, hrs⟩ := id hw
  have hcat : ((rest.map (pm_cz F ad)).map fun v => v.category).sum ≤ 8 := by rw [List.map_map, show ((fun v : Value => v.category) ∘ pm_cz F ad) = fun v => v.category from funext fun v => pm_cz_cat hF ad v]; exact h2
  have sub : ∀ {o : Option (Nat × Nat)} {j : Nat}, pm_isk o j → o = some (j, pm_ln o j) := by
    intro o j ho
    unfold pm_isk at ho
    split at ho
    next j' n' => subst ho; simp [pm_ln]
    next => exact ho.elim
  have s1 := sub hk1
  have s2 := sub hk2
  generalize pm_ln sh[r1]? 3 = n1 at s1 p4
  generalize pm_ln sh[r2]? 3 = n2 at s2 p5
  have l1 := pm_len1 s1
  have l2 := pm_len1 s2
  have hnf : nativeFrameWords "java/lang/System" "arraycopy" 5 = 7 := by decide +kernel
  show W p l0 e Rm s m args below meth cd H locs c z Qf (F0 m pc ls (.int k0 :: .int dp :: pm_cz F ad (.ref r2) :: .int sp :: pm_cz F ad (.ref r1) :: rest.map (pm_cz F ad)))
  rw [pm_czr (i := r2) (by omega), pm_czr (i := r1) (by omega)]
  refine va_copyl hex g1 (by rw [hl.1]) g3 (hts _ hlk) (hts _ pm_w_acn) (hts _ pm_w_acs) (hts _ pm_w_sysi) hK hP hD hS r1 r2 2 2 (pm_ws_at s1) (pm_ws_at s2) (rfl : (pm_tys CA)[2]? = some (CA 3, .long)) (rfl : (pm_tys CA)[2]? = some (CA 3, .long)) rfl p1 p2 p3 p4 p5 (fun _ _ => rfl) (by omega) (by rw [hnf]; omega) hd (fun H1 locs1 hP1 hD1 hS1 => ?_)
  rw [pm_ws_set (I' := I) (L' := pm_up L r2 (va_cpy (L r1) (L r2) sp.toNatClampNeg dp.toNatClampNeg k0.toNatClampNeg)) (R' := R) s2 (by show (Sum.inl (CA 3, n2, .inr (.inl ((pm_up L r2 (va_cpy (L r1) (L r2) sp.toNatClampNeg dp.toNatClampNeg k0.toNatClampNeg)) r2))) : va_E) = _; rw [pm_up_eq]) (fun q hq => rfl) (fun q hq => pm_up_ne hq) (fun _ _ => rfl)] at hP1 hD1
  exact h p l0 e Rm s m args below meth cd F A D CA ad0 n0 H1 locs1 ls ad Qf hcx ⟨hP1, hD1, hS1, hlen, hrs⟩ hx hc hz hl fin
theorem sd_sw_of {x : Int32} {kk : Nat → Prop} {df : Nat} : ∀ {t : List (Int × Nat)}, pm_sw x kk df t → (∃ q ∈ t, x = Int32.ofInt q.1 ∧ kk q.2) ∨ ((∀ q ∈ t, ¬ x = Int32.ofInt q.1) ∧ kk df)
  | [], h => Or.inr ⟨fun _ h => absurd h List.not_mem_nil, h⟩
  | (a, b) :: r, h => by
    by_cases hx : x = Int32.ofInt a
    · exact Or.inl ⟨(a, b), List.mem_cons_self, hx, h.1 hx⟩
    · rcases sd_sw_of (h.2 hx) with ⟨q, h1, h2, h3⟩ | ⟨h1, h2⟩
      · exact Or.inl ⟨q, List.mem_cons_of_mem _ h1, h2, h3⟩
      · refine Or.inr ⟨fun q hq => ?_, h2⟩
        rcases List.mem_cons.mp hq with rfl | hq
        · exact hx
        · exact h1 q hq
theorem sd_ret (hm : pm_ms[mi]? = some (own, y, cc, ml, r, na)) {w : Option Value} (hq : Q w sh I L R) (hrd : pm_rd mi pc w) (hst : st = w.toList) : pm_snd X d mi pc l st c z sh I L R Q := by
  intro p l0 e Rm s m args below meth cd F A D CA ad0 n0 H locs ls ad Qf hcx hw hx hc hz hl fin
  subst hst
  have h := fin w sh I L R ad H locs pc ls c z hq hw hx hc hz hrd
  cases w with
  | none => exact h
  | some w => exact h
end PMC
