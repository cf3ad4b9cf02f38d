/-! SOUNDNESS of every step -/
theorem pm_good {w : Cond} (h : w ∈ pm_tb) : (w.onTables && w.keeps) = true ∨ ∃ ty, w = .arrayClass ty := good_of_word (List.mem_filter.mp h).2
theorem pm_goodIn {y : MethodName} {cc : ByteArray} {ml : Nat} {r : Option FieldType} (h : Cond.code y cc ml r ∈ pm_tb) : GoodIn pm_tb (Cond.code y cc ml r :: pm_tb) := fun w hw => by
  rcases List.mem_cons.mp hw with rfl | hw
  · exact ⟨h, pm_good h⟩
  · exact ⟨hw, pm_good hw⟩
theorem pm_cl_data {own k a kind : Nat} (h : pm_lkn pm_cl own k a kind = true) : a < 227 ∧ ∃ o2 y2 c2 ml2 r2 na2 p1 p2 p3 p4 st, pm_ms[a]? = some (o2, y2, c2, ml2, r2, na2) ∧ pm_mw[a]? = some (p1, p2, p3, p4, st) ∧ (if kind = 1 ∨ kind = 2 then st = true else st = false) ∧ (if kind = 3 ∨ kind = 4 then y2.name = "<init>" else y2.name ≠ "<init>") ∧
    (if kind = 2 ∨ kind = 4 then Cond.methodLinkNest (pm_os own) k y2 RX7 ∈ pm_nest else Cond.methodLink (pm_os own) k y2 ∈ pm_tb) := by
  obtain ⟨p, hm⟩ := pm_lkn_mem h
  have h1 := List.all_eq_true.mp pm_cl_w _ hm
  have h2 := List.all_eq_true.mp pm_cl_k _ hm
  unfold pm_clok at h1
  simp only at h1 h2
  split at h2
  next p1 p2 p3 p4 st o2 y2 c2 ml2 r2 na2 e1 e2 =>
    rw [e2] at h1
    simp only at h1
    have hlt : a < 227 := by
      have hl : pm_mw.length = 227 := by decide +kernel
      rw [← hl]
      exact (List.getElem?_eq_some_iff.mp e1).1
    refine ⟨hlt, o2, y2, c2, ml2, r2, na2, p1, p2, p3, p4, st, e2, e1, ?_, ?_, ?_⟩
    · simp only [Bool.and_eq_true] at h2
      have h3 := h2.1
      split
      next hk => rw [if_pos hk] at h3; exact h3
      next hk => rw [if_neg hk] at h3; simpa using h3
    · simp only [Bool.and_eq_true] at h2
      have h3 := h2.2
      split
      next hk => rw [if_pos hk] at h3; simpa using h3
      next hk => rw [if_neg hk] at h3; simpa using h3
    · split
      next hk =>
        rw [if_pos hk] at h1
        obtain ⟨w, hw, he⟩ := List.any_eq_true.mp h1
        have he' : w = Cond.methodLinkNest (pm_os own) k y2 RX7 := by simpa using he
        rw [← he']
        exact hw
      next hk =>
        rw [if_neg hk] at h1
        exact pm_has_mem h1
  next => cases h2
section PMD
variable {X : pm_X} {d mi pc pc' n a b : Nat} {v : Int} {t : List (Int × Nat)} {l l' : pm_l} {st st' : List Value} {c z : Nat} {sh : pm_S} {I : pm_I} {L : pm_L} {R : pm_R} {Q : pm_Q} {own : Nat} {y : MethodName} {cc : ByteArray} {ml : Nat} {r : Option FieldType} {na : Nat}
theorem sd_callV (hm : pm_ms[mi]? = some (own, y, cc, ml, r, na)) {k : Nat} (hd : decode cc pc = .ok (.invokevirtual k, 3)) (hr : pm_res own y r pc (.invokevirtual k, 3, a, b, v, t) = true) (h : pm_step X (pm_snd X) (pm_snd X) (.invokevirtual k, 3, a, b, v, t) d mi pc l st c z sh I L R Q) : pm_snd X d mi pc l st c z sh I L R Q := by
  simp only [pm_res, Bool.and_eq_true] at hr
  obtain ⟨hlt, o2, y2, c2, ml2, r2, na2, p1, p2, p3, p4, sta, hm2, hmw, hst, hnm, hlk⟩ := pm_cl_data hr.1
  obtain ⟨hcode, hcls, hini, hdesc, hpl, hm30, hmx, q1, q2, q3, q4, sta', hmw', -, hinst, hsel⟩ := pm_mdata hm2 hlt
  rw [hmw] at hmw'
  cases hmw'
  rw [if_neg (by omega)] at hst hnm hlk
  have hr2 := hr.2
  rw [hm2] at hr2
  simp only [Bool.and_eq_true, beq_iff_eq] at hr2
  simp only [pm_step] at h
  split at h
  next as r0 rest hp =>
    obtain ⟨xs, e1, e2, e3⟩ := pm_popE _ _ _ _ _ hp
    rw [List.append_nil] at e2
    subst e1 e2
    obtain ⟨hrcv, h⟩ := h
    refine sd_call hm (as := .ref r0 :: xs.reverse) (rest := rest) hm2 hlt ?_ h
    intro p l0 e Rm s m args below meth cd F D CA H locs ls ad ad0 A cells slots rm Pc Qc mc ms free hex hb hml hown hts hK hF hFX hw had hM hbl hpre hrc hrs hR hW hf
    obtain ⟨hP, hD, hS, hlen, hrs9⟩ := id hw
    have hr03 : r0 ≠ 1000003 ∧ ∃ cellB : Cell, H[ad r0]? = some cellB ∧ cellB.vm.isStatics = false ∧ s.vm.findClass y2.cls = some cellB.cls := by
      unfold pm_rcv at hrcv
      have hr3 := hr2.2
      split at hrcv
      next hv =>
        rw [if_pos hv] at hr3
        obtain ⟨s1, s2⟩ := hrcv
        obtain ⟨i, rfl⟩ : ∃ i : Nat, r0 = 1000010 + i := Nat.exists_eq_add_of_le s1
        refine ⟨Nat.ne_of_gt (Nat.lt_of_lt_of_le (by omega : 1000003 < 1000010) (Nat.le_add_right _ _)), ?_⟩
        obtain ⟨-, -, -, -, -, -, -, -, -, hVS, -, -, -, -⟩ := hFX
        have e9 : o2 = 20 := by simpa using hr3
        rw [had (1000010 + i) (by omega), hcls, e9]
        exact vk_recv (adK := fun i => ad0 (1000010 + i)) (i := i) hVS (by omega) hS
      next hv =>
        rw [if_neg hv] at hr3
        simp only [Bool.and_eq_true, decide_eq_true_eq] at hr3
        have e9 : v.toNat = o2 := by omega
        rw [e9] at hrcv
        have hlt9 := pm_len1 hrcv
        refine ⟨Nat.ne_of_lt (Nat.lt_of_lt_of_le hlt9 (by omega)), ?_⟩
        rw [hcls]
        exact va_recv (q := (pm_os o2, pm_T o2, pm_nf o2)) hK hP (pm_cls hr3.2).1 (pm_ws_at hrcv)
    have eA : (Value.ref r0 :: xs.reverse).map (pm_cz F ad) = .ref (ad r0) :: (xs.reverse).map (pm_cz F ad) := by rw [List.map_cons, pm_czr hr03.1]
    rw [eA] at hpre ⊢
    exact va_runV (Ts := pm_tb) (C := y2.cls) (own := pm_os own) ⟨hex, hb, hml, hown, hts⟩ hM ⟨callB_of na2 hts (pm_goodIn hcode) rfl hrc hrs (hts _ hini) (hts _ hlk) hdesc hR, hts _ (hinst hst), hts _ (hsel hst hnm)⟩ ⟨hbl, hr03.2, hpre⟩ rfl (by rw [List.length_map, List.length_reverse, e3]; exact hr2.1.symm) rfl
      (by show (xs ++ Value.ref r0 :: rest).map (pm_cz F ad) = _; rw [List.map_append, List.map_cons, pm_czr hr03.1, ← List.map_reverse, List.reverse_reverse]) (lv_room hW) hd hf
  next => exact h.elim
theorem sd_callS (hm : pm_ms[mi]? = some (own, y, cc, ml, r, na)) {k : Nat} (hd : decode cc pc = .ok (.invokestatic k, 3)) (hlk0 : pm_lkn pm_cl own k a 1 = true ∨ pm_lkn pm_cl own k a 2 = true) (hnb : ∀ o2 y2 c2 ml2 r2 na2, pm_ms[a]? = some (o2, y2, c2, ml2, r2, na2) → na2 = b) {as rest : List Value} (hp : pm_pop b [] st = some (as, rest)) (h : pm_call (pm_snd X) (pm_snd X) d mi (pc + 3) l a as rest c z sh I L R Q) : pm_snd X d mi pc l st c z sh I L R Q := by
  obtain ⟨xs, e1, e2, e3⟩ := pm_popE _ _ _ _ _ hp
  rw [List.append_nil] at e2
  subst e1 e2
  rcases hlk0 with hlk0 | hlk0
  · obtain ⟨hlt, o2, y2, c2, ml2, r2, na2, p1, p2, p3, p4, sta, hm2, hmw, hst, hnm, hlk⟩ := pm_cl_data hlk0
    obtain ⟨hcode, hcls, hini, hdesc, hpl, hm30, hmx, q1, q2, q3, q4, sta', hmw', hstat, -, -⟩ := pm_mdata hm2 hlt
    rw [hmw] at hmw'
    cases hmw'
    rw [if_pos (by omega)] at hst
    rw [if_neg (by omega)] at hlk
    refine sd_call hm (as := xs.reverse) (rest := rest) hm2 hlt ?_ h
    intro p l0 e Rm s m args below meth cd F D CA H locs ls ad ad0 A cells slots rm Pc Qc mc ms free hex hb hml hown hts hK hF hFX hw had hM hbl hpre hrc hrs hR hW hf
    exact va_runS (Ts := pm_tb) (own := pm_os own) ⟨hex, hb, hml, hown, hts⟩ hM ⟨callB_of na2 hts (pm_goodIn hcode) rfl hrc hrs (hts _ hini) (hts _ hlk) hdesc hR, hts _ (hstat hst)⟩ ⟨hbl, hpre⟩ rfl (by rw [List.length_map, List.length_reverse, e3]; exact (hnb _ _ _ _ _ _ hm2).symm) rfl
      (by show (xs ++ rest).map (pm_cz F ad) = _; rw [List.map_append, ← List.map_reverse, List.reverse_reverse]) (lv_room hW) hd hf
  · obtain ⟨hlt, o2, y2, c2, ml2, r2, na2, p1, p2, p3, p4, sta, hm2, hmw, hst, hnm, hlk⟩ := pm_cl_data hlk0
    obtain ⟨hcode, hcls, hini, hdesc, hpl, hm30, hmx, q1, q2, q3, q4, sta', hmw', hstat, -, -⟩ := pm_mdata hm2 hlt
    rw [hmw] at hmw'
    cases hmw'
    rw [if_pos (by omega)] at hst hlk
    refine sd_call hm (as := xs.reverse) (rest := rest) hm2 hlt ?_ h
    intro p l0 e Rm s m args below meth cd F D CA H locs ls ad ad0 A cells slots rm Pc Qc mc ms free hex hb hml hown hts hK hF hFX hw had hM hbl hpre hrc hrs hR hW hf
    obtain ⟨-, -, -, -, -, -, -, -, -, -, -, hnw, -, -⟩ := hFX
    exact va_runSN (Ts := pm_tb) (own := pm_os own) (host := RX7) ⟨hex, hb, hml, hown, hts⟩ hM ⟨va_cnB na2 hts (pm_goodIn hcode) rfl hrc hrs (hnw _ hlk) (hts _ hini) hdesc hR, hts _ (hstat hst), trivial⟩ ⟨hbl, hpre⟩ rfl (by rw [List.length_map, List.length_reverse, e3]; exact (hnb _ _ _ _ _ _ hm2).symm) rfl
      (by show (xs ++ rest).map (pm_cz F ad) = _; rw [List.map_append, ← List.map_reverse, List.reverse_reverse]) (lv_room hW) hd hf
theorem sd_callI (hm : pm_ms[mi]? = some (own, y, cc, ml, r, na)) {k : Nat} (hd : decode cc pc = .ok (.invokespecial k, 3)) (hlk0 : pm_lkn pm_cl own k a 3 = true ∨ pm_lkn pm_cl own k a 4 = true) (hnb : ∀ o2 y2 c2 ml2 r2 na2, pm_ms[a]? = some (o2, y2, c2, ml2, r2, na2) → na2 = b ∧ r2 = none) {as rest : List Value} {r0 : Nat} (hr03 : r0 ≠ 1000003) (hp : pm_pop b [] st = some (as, .ref r0 :: rest)) (h : pm_call (pm_snd X) (pm_snd X) d mi (pc + 3) l a (.ref r0 :: as) rest c z sh I L R Q) : pm_snd X d mi pc l st c z sh I L R Q := by
  obtain ⟨xs, e1, e2, e3⟩ := pm_popE _ _ _ _ _ hp
  rw [List.append_nil] at e2
  subst e1 e2
  have eA : ∀ (F : Value) (ad : Nat → Nat), (Value.ref r0 :: xs.reverse).map (pm_cz F ad) = .ref (ad r0) :: (xs.reverse).map (pm_cz F ad) := fun F ad => by rw [List.map_cons, pm_czr hr03]
  rcases hlk0 with hlk0 | hlk0
  · obtain ⟨hlt, o2, y2, c2, ml2, r2, na2, p1, p2, p3, p4, sta, hm2, hmw, hst, hnm, hlk⟩ := pm_cl_data hlk0
    obtain ⟨hcode, hcls, hini, hdesc, hpl, hm30, hmx, q1, q2, q3, q4, sta', hmw', -, hinst, -⟩ := pm_mdata hm2 hlt
    rw [hmw] at hmw'
    cases hmw'
    rw [if_neg (by omega)] at hst hlk
    rw [if_pos (by omega)] at hnm
    obtain ⟨hb2, rfl⟩ := hnb _ _ _ _ _ _ hm2
    refine sd_call hm (as := .ref r0 :: xs.reverse) (rest := rest) hm2 hlt ?_ h
    intro p l0 e Rm s m args below meth cd F D CA H locs ls ad ad0 A cells slots rm Pc Qc mc ms free hex hb hml hown hts hK hF hFX hw had hM hbl hpre hrc hrs hR hW hf
    rw [eA] at hpre ⊢
    exact va_runI (Ts := pm_tb) (own := pm_os own) ⟨hex, hb, hml, hown, hts⟩ hM ⟨callB_of na2 hts (pm_goodIn hcode) rfl hrc hrs (hts _ hini) (hts _ hlk) hdesc hR, hnm, hts _ (hinst hst)⟩ ⟨hbl, hpre⟩ rfl (by rw [List.length_map, List.length_reverse, e3]; exact hb2.symm) rfl
      (by show (xs ++ Value.ref r0 :: rest).map (pm_cz F ad) = _; rw [List.map_append, List.map_cons, pm_czr hr03, ← List.map_reverse, List.reverse_reverse]) (lv_room hW) hd hf
  · obtain ⟨hlt, o2, y2, c2, ml2, r2, na2, p1, p2, p3, p4, sta, hm2, hmw, hst, hnm, hlk⟩ := pm_cl_data hlk0
    obtain ⟨hcode, hcls, hini, hdesc, hpl, hm30, hmx, q1, q2, q3, q4, sta', hmw', -, hinst, -⟩ := pm_mdata hm2 hlt
    rw [hmw] at hmw'
    cases hmw'
    rw [if_neg (by omega)] at hst
    rw [if_pos (by omega)] at hnm hlk
    obtain ⟨hb2, rfl⟩ := hnb _ _ _ _ _ _ hm2
    refine sd_call hm (as := .ref r0 :: xs.reverse) (rest := rest) hm2 hlt ?_ h
    intro p l0 e Rm s m args below meth cd F D CA H locs ls ad ad0 A cells slots rm Pc Qc mc ms free hex hb hml hown hts hK hF hFX hw had hM hbl hpre hrc hrs hR hW hf
    obtain ⟨-, -, -, -, -, -, -, -, -, -, -, hnw, -, -⟩ := hFX
    rw [eA] at hpre ⊢
    exact va_runIN (Ts := pm_tb) (own := pm_os own) (host := RX7) ⟨hex, hb, hml, hown, hts⟩ hM ⟨va_cnB na2 hts (pm_goodIn hcode) rfl hrc hrs (hnw _ hlk) (hts _ hini) hdesc hR, hnm, hts _ (hinst hst)⟩ ⟨hbl, hpre⟩ rfl (by rw [List.length_map, List.length_reverse, e3]; exact hb2.symm) rfl
      (by show (xs ++ Value.ref r0 :: rest).map (pm_cz F ad) = _; rw [List.map_append, List.map_cons, pm_czr hr03, ← List.map_reverse, List.reverse_reverse]) (lv_room hW) hd hf
end PMD
theorem sd_getstatic {X : pm_X} {d mi pc a b : Nat} {v : Int} {t : List (Int × Nat)} {l : pm_l} {st : List Value} {c z : Nat} {sh : pm_S} {I : pm_I} {L : pm_L} {R : pm_R} {Q : pm_Q} {own : Nat} {y : MethodName} {cc : ByteArray} {ml : Nat} {r : Option FieldType} {na : Nat} (hm : pm_ms[mi]? = some (own, y, cc, ml, r, na)) {k : Nat} (hd : decode cc pc = .ok (.getstatic k, 3)) (hr : pm_res own y r pc (.getstatic k, 3, a, b, v, t) = true) (h : pm_step X (pm_snd X) (pm_snd X) (.getstatic k, 3, a, b, v, t) d mi pc l st c z sh I L R Q) : pm_snd X d mi pc l st c z sh I L R Q := by
  simp only [pm_step] at h
  intro p l0 e Rm s m args below meth cd F A D CA ad0 n0 H locs ls ad Qf hcx hw hx hc hz hl fin
  obtain ⟨g1, g2, g3, g4, g5⟩ := pm_cxm hcx hm
  obtain ⟨-, hex, hts, -, -, -, -, -, hK, hF, hFX, hA⟩ := id hcx
  obtain ⟨hP, hD, hS, hlen, hrs⟩ := id hw
  obtain ⟨-, -, -, hZ1, -, hZ2, -, hZ3, hZ4, -, -, hnw, -, -⟩ := hFX
  have fr : ∀ q : Nat, q ≠ 1000003 → 1000000 ≤ q → pm_cz F ad (.ref q) = .ref (ad0 q) := fun q h1 h2 => by rw [pm_czr h1, hx.1 q (Or.inr h2)]
  simp only [pm_res, Bool.or_eq_true, Bool.and_eq_true, beq_iff_eq, decide_eq_true_eq] at hr
  rcases hr with (((⟨rfl, rfl, rfl, rfl⟩ | ⟨rfl, rfl, rfl, rfl⟩) | ⟨rfl, rfl, rfl, rfl⟩) | ⟨rfl, rfl, rfl, rfl⟩) | ⟨rfl, rfl, rfl, rfl⟩
  · exact va_gets hex g1 hZ3 hS g3 (hts _ pm_w_fcs) (fun _ h9 => h9) hd (h p l0 e Rm s m args below meth cd F A D CA ad0 n0 H locs ls ad Qf hcx hw hx hc hz hl fin)
  · have h := h p l0 e Rm s m args below meth cd F A D CA ad0 n0 H locs ls ad Qf hcx hw hx hc hz hl fin
    exact va_gets hex g1 hZ4 hS g3 (hts _ pm_w_fsi) (fun _ h9 => h9) hd h
  · have h := h p l0 e Rm s m args below meth cd F A D CA ad0 n0 H locs ls ad Qf hcx hw hx hc hz hl fin
    rw [List.map_cons, fr 1000001 (by omega) (by omega)] at h
    exact va_gets hex g1 hZ1 hS g3 (hts _ pm_w_fab) (fun _ h9 => h9) hd h
  · have h := h p l0 e Rm s m args below meth cd F A D CA ad0 n0 H locs ls ad Qf hcx hw hx hc hz hl fin
    rw [List.map_cons, fr 1000002 (by omega) (by omega)] at h
    exact va_gets hex g1 hZ2 hS g3 (hts _ pm_w_fbo) (fun _ h9 => h9) hd h
  · have h := h p l0 e Rm s m args below meth cd F A D CA ad0 n0 H locs ls ad Qf hcx hw hx hc hz hl fin
    rw [List.map_cons, fr 1000001 (by omega) (by omega)] at h
    exact va_getsN hex g1 hZ1 hS g3 (va_Nw.use (w := Cond.fieldLinkNest RX0 52 RX7 "ABOVE" "[I" RX7) rfl (hnw _ (by decide +kernel))) (fun _ h9 => h9) hd h
theorem sd_ldc {X : pm_X} {d mi pc a b : Nat} {v : Int} {t : List (Int × Nat)} {l : pm_l} {st : List Value} {c z : Nat} {sh : pm_S} {I : pm_I} {L : pm_L} {R : pm_R} {Q : pm_Q} {own : Nat} {y : MethodName} {cc : ByteArray} {ml : Nat} {r : Option FieldType} {na : Nat} (hm : pm_ms[mi]? = some (own, y, cc, ml, r, na)) {k : Nat} (hd : decode cc pc = .ok (.ldc k, 2)) (hr : pm_res own y r pc (.ldc k, 2, a, b, v, t) = true) (h : pm_step X (pm_snd X) (pm_snd X) (.ldc k, 2, a, b, v, t) d mi pc l st c z sh I L R Q) : pm_snd X d mi pc l st c z sh I L R Q := by
  simp only [pm_step] at h
  intro p l0 e Rm s m args below meth cd F A D CA ad0 n0 H locs ls ad Qf hcx hw hx hc hz hl fin
  obtain ⟨g1, g2, g3, g4, g5⟩ := pm_cxm hcx hm
  obtain ⟨-, hex, hts, -, -, -, -, -, hK, hF, hFX, hA⟩ := id hcx
  obtain ⟨-, -, -, -, -, -, -, -, -, -, hR9, -, -, -⟩ := hFX
  simp only [pm_res] at hr
  split at h
  next ha =>
    rw [if_pos ha] at hr
    obtain ⟨q9, hq9, hqe⟩ := List.any_eq_true.mp hr
    simp only [Bool.and_eq_true, beq_iff_eq, decide_eq_true_eq] at hqe
    have hkw := pm_has_mem (List.all_eq_true.mp pm_cn_w q9 hq9)
    rw [hqe.1, hqe.2.1, hqe.2.2] at hkw
    exact lv_ldc hex g1 g3 (hts _ hkw) hd (h p l0 e Rm s m args below meth cd F A D CA ad0 n0 H locs ls ad Qf hcx hw hx hc hz hl fin)
  next ha =>
    rw [if_neg ha] at hr
    simp only [Bool.and_eq_true, beq_iff_eq, decide_eq_true_eq] at hr
    obtain ⟨rfl, hb5, rfl⟩ := hr
    have h := h p l0 e Rm s m args below meth cd F A D CA ad0 n0 H locs ls ad Qf hcx hw hx hc hz hl fin
    rw [List.map_cons, pm_czr (by omega), hx.1 (1000010 + b) (Or.inr (by omega))] at h
    exact va_ldcS hex g1 g3 (hR9 b hb5) hd h
theorem sd_ldcw {X : pm_X} {d mi pc a b : Nat} {v : Int} {t : List (Int × Nat)} {l : pm_l} {st : List Value} {c z : Nat} {sh : pm_S} {I : pm_I} {L : pm_L} {R : pm_R} {Q : pm_Q} {own : Nat} {y : MethodName} {cc : ByteArray} {ml : Nat} {r : Option FieldType} {na : Nat} (hm : pm_ms[mi]? = some (own, y, cc, ml, r, na)) {k : Nat} (hd : decode cc pc = .ok (.ldc_w k, 3)) (hr : pm_res own y r pc (.ldc_w k, 3, a, b, v, t) = true) (h : pm_step X (pm_snd X) (pm_snd X) (.ldc_w k, 3, a, b, v, t) d mi pc l st c z sh I L R Q) : pm_snd X d mi pc l st c z sh I L R Q := by
  simp only [pm_res, Bool.and_eq_true, decide_eq_true_eq] at hr
  simp only [pm_step] at h
  rw [if_pos hr.1] at h
  obtain ⟨q9, hq9, hqe⟩ := List.any_eq_true.mp hr.2
  simp only [Bool.and_eq_true, beq_iff_eq, decide_eq_true_eq] at hqe
  have hkw := pm_has_mem (List.all_eq_true.mp pm_cn_w q9 hq9)
  rw [hqe.1, hqe.2.1, hqe.2.2] at hkw
  refine sd_pure hm (fun p l0 e Rm s m args below meth cd F H locs ls ad cells slots Qf hx hb ho hts hF hl w => ?_) h
  exact lv_ldcw hx hb ho (hts _ hkw) hd w
theorem sd_ldc2 {X : pm_X} {d mi pc a b : Nat} {v : Int} {t : List (Int × Nat)} {l : pm_l} {st : List Value} {c z : Nat} {sh : pm_S} {I : pm_I} {L : pm_L} {R : pm_R} {Q : pm_Q} {own : Nat} {y : MethodName} {cc : ByteArray} {ml : Nat} {r : Option FieldType} {na : Nat} (hm : pm_ms[mi]? = some (own, y, cc, ml, r, na)) {k : Nat} (hd : decode cc pc = .ok (.ldc2_w k, 3)) (hr : pm_res own y r pc (.ldc2_w k, 3, a, b, v, t) = true) (h : pm_step X (pm_snd X) (pm_snd X) (.ldc2_w k, 3, a, b, v, t) d mi pc l st c z sh I L R Q) : pm_snd X d mi pc l st c z sh I L R Q := by
  simp only [pm_res] at hr
  simp only [pm_step] at h
  obtain ⟨q9, hq9, hqe⟩ := List.any_eq_true.mp hr
  simp only [Bool.and_eq_true, beq_iff_eq, decide_eq_true_eq] at hqe
  have hkw := pm_has_mem (List.all_eq_true.mp pm_cnl_w q9 hq9)
  rw [hqe.1, hqe.2.1, hqe.2.2] at hkw
  refine sd_pure hm (fun p l0 e Rm s m args below meth cd F H locs ls ad cells slots Qf hx hb ho hts hF hl w => ?_) h
  exact lv_ldc2 hx hb ho (hts _ hkw) hd w
