/-! SOUNDNESS: all steps together -/
theorem pm_swok_len {pc : Nat} {ps : List (Int × Int)} {t : List (Int × Nat)} (h : pm_swok pc ps t = true) : ps.length = t.length ∧ ∀ (i : Nat) (x : Int × Int) (w : Int × Nat), ps[i]? = some x → t[i]? = some w → x.1 = w.1 ∧ (pc : Int) + x.2 = (w.2 : Int) ∧ -2147483648 ≤ x.1 ∧ x.1 ≤ 2147483647 := by
  unfold pm_swok at h
  simp only [Bool.and_eq_true, decide_eq_true_eq] at h
  refine ⟨h.1, fun i x w hx hw => ?_⟩
  have h1 := List.all_eq_true.mp h.2 (x, w) (List.mem_of_getElem? (i := i) (by rw [List.getElem?_zip_eq_some]; exact ⟨hx, hw⟩))
  simp only [Bool.and_eq_true, decide_eq_true_eq] at h1
  exact ⟨h1.1, h1.2.1, h1.2.2.1, h1.2.2.2⟩
theorem pm_ofInt {x : Int32} {a : Int} (h1 : -2147483648 ≤ a) (h2 : a ≤ 2147483647) : x = Int32.ofInt a ↔ x.toInt = a := by
  constructor
  · rintro rfl
    exact Int32.toInt_ofInt_of_le (by simpa using h1) (by have := h2; omega)
  · intro h
    rw [← h, Int32.ofInt_toInt]
theorem sd_tsw {X : pm_X} {d mi pc n a b : Nat} {v : Int} {t : List (Int × Nat)} {l : pm_l} {st : List Value} {c z : Nat} {sh : pm_S} {I : pm_I} {L : pm_L} {R : pm_R} {Q : pm_Q} {own : Nat} {y : MethodName} {cc : ByteArray} {ml : Nat} {r : Option FieldType} {na : Nat} (hm : pm_ms[mi]? = some (own, y, cc, ml, r, na)) {df lo hi : Int} {offs : Array Int} (hd : decode cc pc = .ok (.tableswitch df lo hi offs, n)) (hr : pm_res own y r pc (.tableswitch df lo hi offs, n, a, b, v, t) = true) (h : pm_step X (pm_snd X) (pm_snd X) (.tableswitch df lo hi offs, n, a, b, v, t) d mi pc l st c z sh I L R Q) : pm_snd X d mi pc l st c z sh I L R Q := by
  simp only [pm_res, Bool.and_eq_true, decide_eq_true_eq] at hr
  obtain ⟨hdf, hlo, hsw⟩ := hr
  obtain ⟨hle, hel⟩ := pm_swok_len hsw
  rw [List.length_mapIdx, Array.length_toList] at hle
  simp only [pm_step] at h
  split at h
  next x rest =>
    have hel' : ∀ (i : Nat) (hi : i < offs.size), ∃ w, t[i]? = some w ∧ lo + (i : Int) = w.1 ∧ (pc : Int) + offs[i] = (w.2 : Int) ∧ -2147483648 ≤ lo + (i : Int) ∧ lo + (i : Int) ≤ 2147483647 := by
      intro i hi9
      have hit : i < t.length := by omega
      refine ⟨t[i], List.getElem?_eq_getElem hit, ?_⟩
      exact hel i (lo + (i : Int), offs[i]) t[i] (by rw [List.getElem?_mapIdx, List.getElem?_eq_getElem (by rw [Array.length_toList]; exact hi9)]; rfl) (List.getElem?_eq_getElem hit)
    rcases sd_sw_of h with ⟨q, hq, hx, hk⟩ | ⟨hno, hk⟩
    · refine sd_pure hm (fun p l0 e Rm s m args below meth cd F H locs ls ad cells slots Qf hx9 hb ho hts hF hl w => ?_) hk
      obtain ⟨i, hi9⟩ := List.getElem?_of_mem hq
      have hit := (List.getElem?_eq_some_iff.mp hi9).1
      obtain ⟨w9, hw1, hw2, hw3, hw4, hw5⟩ := hel' i (by omega)
      rw [hi9] at hw1
      cases hw1
      have hxv : x.toInt = lo + (i : Int) := by
        rw [← hw2] at hx
        exact (pm_ofInt hw4 hw5).mp hx
      exact lv_tableIn hx9 hb hd (by omega) (by omega) (off := offs[i]'(by omega)) (by rw [show (x.toInt - lo).toNat = i by omega]; exact Array.getElem?_eq_getElem (by omega)) hw3 w
    · refine sd_pure hm (fun p l0 e Rm s m args below meth cd F H locs ls ad cells slots Qf hx9 hb ho hts hF hl w => ?_) hk
      refine lv_tableOut hx9 hb hd ?_ hdf w
      by_cases h1 : x.toInt < lo
      · exact Or.inl h1
      · refine Or.inr ?_
        by_cases h2 : hi < x.toInt
        · exact h2
        · exfalso
          obtain ⟨w9, hw1, hw2, hw3, hw4, hw5⟩ := hel' (x.toInt - lo).toNat (by omega)
          refine hno w9 (List.mem_of_getElem? hw1) ?_
          rw [← hw2]
          exact (pm_ofInt hw4 hw5).mpr (by omega)
  next => exact h.elim
theorem pm_lso : ∀ {ps : List (Int × Int)} {t : List (Int × Nat)} {df : Int} {x : Int32} {pc a : Nat} {kk : Nat → Prop}, pm_swok pc ps t = true → (pc : Int) + df = (a : Int) → pm_sw x kk a t → ∃ tgt : Nat, (pc : Int) + Op.lookupswitch.offset ps df x.toInt = (tgt : Int) ∧ kk tgt
  | [], [], df, x, pc, a, kk, _, hdf, h => ⟨a, by rw [show Op.lookupswitch.offset [] df x.toInt = df from rfl]; exact hdf, h⟩
  | [], _ :: _, df, x, pc, a, kk, hsw, _, _ => by
    have := (pm_swok_len hsw).1
    simp at this
  | _ :: _, [], df, x, pc, a, kk, hsw, _, _ => by
    have := (pm_swok_len hsw).1
    simp at this
  | (k1, o1) :: ps, (k2, t2) :: t, df, x, pc, a, kk, hsw, hdf, h => by
    obtain ⟨hle, hel⟩ := pm_swok_len hsw
    obtain ⟨e1, e2, e3, e4⟩ := hel 0 (k1, o1) (k2, t2) rfl rfl
    simp only at e1 e2 e3 e4
    subst e1
    have hsw' : pm_swok pc ps t = true := by
      unfold pm_swok at hsw ⊢
      simp only [List.length_cons, List.zip_cons_cons, List.all_cons, Bool.and_eq_true, decide_eq_true_eq] at hsw ⊢
      exact ⟨by omega, hsw.2.2⟩
    by_cases hx : x = Int32.ofInt k1
    · refine ⟨t2, ?_, h.1 hx⟩
      rw [Op.lookupswitch.offset_cons, if_pos ((pm_ofInt e3 e4).mp hx).symm]
      exact e2
    · obtain ⟨tgt, h1, h2⟩ := pm_lso hsw' hdf (h.2 hx)
      refine ⟨tgt, ?_, h2⟩
      rw [Op.lookupswitch.offset_cons, if_neg (fun q => hx ((pm_ofInt e3 e4).mpr q.symm))]
      exact h1
theorem sd_lsw {X : pm_X} {d mi pc n a b : Nat} {v : Int} {t : List (Int × Nat)} {l : pm_l} {st : List Value} {c z : Nat} {sh : pm_S} {I : pm_I} {L : pm_L} {R : pm_R} {Q : pm_Q} {own : Nat} {y : MethodName} {cc : ByteArray} {ml : Nat} {r : Option FieldType} {na : Nat} (hm : pm_ms[mi]? = some (own, y, cc, ml, r, na)) {df : Int} {ps : Array (Int × Int)} (hd : decode cc pc = .ok (.lookupswitch df ps, n)) (hr : pm_res own y r pc (.lookupswitch df ps, n, a, b, v, t) = true) (h : pm_step X (pm_snd X) (pm_snd X) (.lookupswitch df ps, n, a, b, v, t) d mi pc l st c z sh I L R Q) : pm_snd X d mi pc l st c z sh I L R Q := by
  simp only [pm_res, Bool.and_eq_true, decide_eq_true_eq] at hr
  obtain ⟨hdf, hso, hsw⟩ := hr
  simp only [pm_step] at h
  split at h
  next x rest =>
    obtain ⟨tgt, h1, h2⟩ := pm_lso hsw hdf h
    refine sd_pure hm (fun p l0 e Rm s m args below meth cd F H locs ls ad cells slots Qf hx9 hb ho hts hF hl w => ?_) h2
    exact lv_lookup hx9 hb hd hso rfl h1 w
  next => exact h.elim
theorem sd_isp {X : pm_X} {d mi pc a b : Nat} {v : Int} {t : List (Int × Nat)} {l : pm_l} {st : List Value} {c z : Nat} {sh : pm_S} {I : pm_I} {L : pm_L} {R : pm_R} {Q : pm_Q} {own : Nat} {y : MethodName} {cc : ByteArray} {ml : Nat} {r : Option FieldType} {na : Nat} (hm : pm_ms[mi]? = some (own, y, cc, ml, r, na)) {k : Nat} (hd : decode cc pc = .ok (.invokespecial k, 3)) (hr : pm_res own y r pc (.invokespecial k, 3, a, b, v, t) = true) (h : pm_step X (pm_snd X) (pm_snd X) (.invokespecial k, 3, a, b, v, t) d mi pc l st c z sh I L R Q) : pm_snd X d mi pc l st c z sh I L R Q := by
  simp only [pm_res] at hr
  simp only [pm_step] at h
  split at h
  next hv =>
    rw [if_pos hv] at hr
    obtain ⟨q9, hq9, hqe⟩ := List.any_eq_true.mp hr
    simp only [Bool.and_eq_true, beq_iff_eq] at hqe
    have hxw := List.all_eq_true.mp pm_xl_w q9 hq9
    unfold pm_xok at hxw
    rw [if_neg (by omega), if_neg (by omega), if_neg (by omega), if_pos hqe.2.2] at hxw
    have hcl := pm_has_mem hxw
    rw [hqe.1, hqe.2.1] at hcl
    split at h
    next x rest => exact sd_objinit hm hd hcl h.1 h.2.1 h.2.2.1 h.2.2.2
    next => exact h.elim
  next hv =>
    rw [if_neg hv] at hr
    simp only [Bool.and_eq_true, Bool.or_eq_true] at hr
    split at h
    next as x rest hp =>
      refine sd_callI hm hd hr.1 (fun o2 y2 c2 ml2 r2 na2 h9 => ?_) h.1 hp h.2
      have h8 := hr.2
      rw [h9] at h8
      simpa using h8
    next => exact h.elim
theorem sd_ist {X : pm_X} {d mi pc a b : Nat} {v : Int} {t : List (Int × Nat)} {l : pm_l} {st : List Value} {c z : Nat} {sh : pm_S} {I : pm_I} {L : pm_L} {R : pm_R} {Q : pm_Q} {own : Nat} {y : MethodName} {cc : ByteArray} {ml : Nat} {r : Option FieldType} {na : Nat} (hm : pm_ms[mi]? = some (own, y, cc, ml, r, na)) {k : Nat} (hd : decode cc pc = .ok (.invokestatic k, 3)) (hr : pm_res own y r pc (.invokestatic k, 3, a, b, v, t) = true) (h : pm_step X (pm_snd X) (pm_snd X) (.invokestatic k, 3, a, b, v, t) d mi pc l st c z sh I L R Q) : pm_snd X d mi pc l st c z sh I L R Q := by
  simp only [pm_res] at hr
  simp only [pm_step] at h
  by_cases v0 : v = 0
  · rw [if_pos v0] at hr h
    simp only [Bool.and_eq_true, Bool.or_eq_true] at hr
    split at h
    next as rest hp =>
      refine sd_callS hm hd hr.1 (fun o2 y2 c2 ml2 r2 na2 h9 => ?_) hp h
      have h8 := hr.2
      rw [h9] at h8
      simpa using h8
    next => exact h.elim
  · rw [if_neg v0] at hr h
    simp only [Bool.and_eq_true, decide_eq_true_eq] at hr
    obtain ⟨hr6, hr⟩ := hr
    obtain ⟨q9, hq9, hqe⟩ := List.any_eq_true.mp hr
    simp only [Bool.and_eq_true, beq_iff_eq, decide_eq_true_eq] at hqe
    have hxw := List.all_eq_true.mp pm_xl_w q9 hq9
    unfold pm_xok at hxw
    by_cases v1 : v = 1
    · rw [if_pos v1] at h
      rw [if_pos (by omega)] at hxw
      have hcl := pm_has_mem hxw
      rw [hqe.1, hqe.2.1] at hcl
      split at h
      next x2 x rest => exact sd_max hm hd hcl h.1 h.2.1 h.2.2
      next => exact h.elim
    · rw [if_neg v1] at h
      rw [if_neg (by omega)] at hxw
      by_cases v2 : v = 2
      · rw [if_pos v2] at h
        rw [if_pos (by omega)] at hxw
        have hcl := pm_has_mem hxw
        rw [hqe.1, hqe.2.1] at hcl
        split at h
        next x2 x rest => exact sd_min hm hd hcl h.1 h.2.1 h.2.2
        next => exact h.elim
      · rw [if_neg v2] at h
        rw [if_neg (by omega)] at hxw
        by_cases v3 : v = 3
        · rw [if_pos v3] at h
          rw [if_pos (by omega)] at hxw
          have hcl := pm_has_mem hxw
          rw [hqe.1, hqe.2.1] at hcl
          split at h
          next x rest => exact sd_abs hm hd hcl h.1 h.2.1 h.2.2
          next => exact h.elim
        · rw [if_neg v3] at h
          rw [if_neg (by omega)] at hxw
          by_cases v6 : v = 6
          · exact absurd v6 hr6
          · rw [if_neg (by omega)] at hxw
            have hcl := pm_has_mem hxw
            rw [hqe.1, hqe.2.1] at hcl
            by_cases v4 : v = 4
            · rw [if_pos v4] at h
              split at h
              next k0 dp r2 sp r1 rest =>
                obtain ⟨h1, h2, h3, h4, h5, h6, h7, h8, h9, h⟩ := h
                exact sd_copyi hm hd hcl h1 h2 h3 h4 h5 h6 h7 h8 h9 h
              next => exact h.elim
            · rw [if_neg v4] at h
              split at h
              next k0 dp r2 sp r1 rest =>
                obtain ⟨h1, h2, h3, h4, h5, h6, h7, h8, h9, h⟩ := h
                exact sd_copyl hm hd hcl h1 h2 h3 h4 h5 h6 h7 h8 h9 h
              next => exact h.elim
theorem sd_step {X : pm_X} {d mi pc n a b : Nat} {v : Int} {t : List (Int × Nat)} {l : pm_l} {st : List Value} {c z : Nat} {sh : pm_S} {I : pm_I} {L : pm_L} {R : pm_R} {Q : pm_Q} {own : Nat} {y : MethodName} {cc : ByteArray} {ml : Nat} {r : Option FieldType} {na : Nat} (hm : pm_ms[mi]? = some (own, y, cc, ml, r, na)) {ins : Instr} (hd : decode cc pc = .ok (ins, n)) (hlen : pm_isw ins = false → n = pm_ilen ins) (hr : pm_res own y r pc (ins, n, a, b, v, t) = true) (hst : pm_stl ins = true → a < ml) (h : pm_step X (pm_snd X) (pm_snd X) (ins, n, a, b, v, t) d mi pc l st c z sh I L R Q) : pm_snd X d mi pc l st c z sh I L R Q := by
  cases ins with
  | iload_n k =>
    obtain rfl : n = 1 := hlen rfl
    exact sd_iload_n hm hd (by simpa [pm_res] using hr) h
  | iload k =>
    obtain rfl : n = 2 := hlen rfl
    exact sd_iload hm hd (by simpa [pm_res] using hr) h
  | lload_n k =>
    obtain rfl : n = 1 := hlen rfl
    exact sd_lload_n hm hd (by simpa [pm_res] using hr) h
  | lload k =>
    obtain rfl : n = 2 := hlen rfl
    exact sd_lload hm hd (by simpa [pm_res] using hr) h
  | aload_n k =>
    obtain rfl : n = 1 := hlen rfl
    exact sd_aload_n hm hd (by simpa [pm_res] using hr) h
  | aload k =>
    obtain rfl : n = 2 := hlen rfl
    exact sd_aload hm hd (by simpa [pm_res] using hr) h
  | istore_n k =>
    obtain rfl : n = 1 := hlen rfl
    exact sd_istore_n hm hd (by simpa [pm_res] using hr) (hst rfl) h
  | istore k =>
    obtain rfl : n = 2 := hlen rfl
    exact sd_istore hm hd (by simpa [pm_res] using hr) (hst rfl) h
  | astore_n k =>
    obtain rfl : n = 1 := hlen rfl
    exact sd_astore_n hm hd (by simpa [pm_res] using hr) (hst rfl) h
  | astore k =>
    obtain rfl : n = 2 := hlen rfl
    exact sd_astore hm hd (by simpa [pm_res] using hr) (hst rfl) h
  | iconst k =>
    obtain rfl : n = 1 := hlen rfl
    exact sd_iconst hm hd (by simpa [pm_res] using hr) h
  | bipush k =>
    obtain rfl : n = 2 := hlen rfl
    exact sd_bipush hm hd (by simpa [pm_res] using hr) h
  | sipush k =>
    obtain rfl : n = 3 := hlen rfl
    exact sd_sipush hm hd (by simpa [pm_res] using hr) h
  | lconst k =>
    obtain rfl : n = 1 := hlen rfl
    exact sd_lconst hm hd (by simpa [pm_res] using hr) h
  | ldc k =>
    obtain rfl : n = 2 := hlen rfl
    exact sd_ldc hm hd hr h
  | ldc_w k =>
    obtain rfl : n = 3 := hlen rfl
    exact sd_ldcw hm hd hr h
  | ldc2_w k =>
    obtain rfl : n = 3 := hlen rfl
    exact sd_ldc2 hm hd hr h
  | getfield k =>
    obtain rfl : n = 3 := hlen rfl
    exact sd_getfield hm hd hr h
  | putfield k =>
    obtain rfl : n = 3 := hlen rfl
    exact sd_putfield hm hd hr h
  | getstatic k =>
    obtain rfl : n = 3 := hlen rfl
    exact sd_getstatic hm hd hr h
  | iaload =>
    obtain rfl : n = 1 := hlen rfl
    exact sd_iaload hm hd h
  | iastore =>
    obtain rfl : n = 1 := hlen rfl
    exact sd_iastore hm hd h
  | baload =>
    obtain rfl : n = 1 := hlen rfl
    exact sd_baload hm hd h
  | bastore =>
    obtain rfl : n = 1 := hlen rfl
    exact sd_bastore hm hd h
  | laload =>
    obtain rfl : n = 1 := hlen rfl
    exact sd_laload hm hd h
  | lastore =>
    obtain rfl : n = 1 := hlen rfl
    exact sd_lastore hm hd h
  | arraylength =>
    obtain rfl : n = 1 := hlen rfl
    exact sd_arraylength hm hd h
  | iadd =>
    obtain rfl : n = 1 := hlen rfl
    exact sd_iadd hm hd h
  | isub =>
    obtain rfl : n = 1 := hlen rfl
    exact sd_isub hm hd h
  | imul =>
    obtain rfl : n = 1 := hlen rfl
    exact sd_imul hm hd h
  | iand =>
    obtain rfl : n = 1 := hlen rfl
    exact sd_iand hm hd h
  | ior =>
    obtain rfl : n = 1 := hlen rfl
    exact sd_ior hm hd h
  | ixor =>
    obtain rfl : n = 1 := hlen rfl
    exact sd_ixor hm hd h
  | ishl =>
    obtain rfl : n = 1 := hlen rfl
    exact sd_ishl hm hd h
  | ishr =>
    obtain rfl : n = 1 := hlen rfl
    exact sd_ishr hm hd h
  | idiv =>
    obtain rfl : n = 1 := hlen rfl
    exact sd_idiv hm hd h
  | irem =>
    obtain rfl : n = 1 := hlen rfl
    exact sd_irem hm hd h
  | ineg =>
    obtain rfl : n = 1 := hlen rfl
    exact sd_ineg hm hd h
  | land =>
    obtain rfl : n = 1 := hlen rfl
    exact sd_land hm hd h
  | lor =>
    obtain rfl : n = 1 := hlen rfl
    exact sd_lor hm hd h
  | lshl =>
    obtain rfl : n = 1 := hlen rfl
    exact sd_lshl hm hd h
  | i2l =>
    obtain rfl : n = 1 := hlen rfl
    exact sd_i2l hm hd h
  | l2i =>
    obtain rfl : n = 1 := hlen rfl
    exact sd_l2i hm hd h
  | i2b =>
    obtain rfl : n = 1 := hlen rfl
    exact sd_i2b hm hd h
  | i2s =>
    obtain rfl : n = 1 := hlen rfl
    exact sd_i2s hm hd h
  | i2c =>
    obtain rfl : n = 1 := hlen rfl
    exact sd_i2c hm hd h
  | lcmp =>
    obtain rfl : n = 1 := hlen rfl
    exact sd_lcmp hm hd h
  | dup =>
    obtain rfl : n = 1 := hlen rfl
    exact sd_dup hm hd h
  | dup2 =>
    obtain rfl : n = 1 := hlen rfl
    exact sd_dup2 hm hd h
  | pop =>
    obtain rfl : n = 1 := hlen rfl
    exact sd_pop hm hd h
  | aaload =>
    obtain rfl : n = 1 := hlen rfl
    exact sd_aaload hm hd (by simpa [pm_res] using hr) h
  | aastore =>
    obtain rfl : n = 1 := hlen rfl
    exact sd_aastore hm hd (by simpa [pm_res] using hr) h
  | iinc k w0 =>
    obtain rfl : n = 3 := hlen rfl
    have hr2 : k = a ∧ w0 = v := by simpa [pm_res] using hr
    exact sd_iinc hm hd hr2.1 hr2.2 h
  | goto k =>
    obtain rfl : n = 3 := hlen rfl
    exact sd_goto hm hd (by simpa [pm_res] using hr) h
  | ifCond cd0 k =>
    obtain rfl : n = 3 := hlen rfl
    exact sd_ifCond hm hd (by simpa [pm_res] using hr) h
  | if_icmp cd0 k =>
    obtain rfl : n = 3 := hlen rfl
    exact sd_if_icmp hm hd (by simpa [pm_res] using hr) h
  | tableswitch df lo hi offs => exact sd_tsw hm hd hr h
  | lookupswitch df ps => exact sd_lsw hm hd hr h
  | newarray k =>
    obtain rfl : n = 2 := hlen rfl
    have hr2 : ((k = .int ∧ a = 1) ∨ (k = .boolean ∧ a = 2)) ∨ (k = .long ∧ a = 3) := by simpa [pm_res] using hr
    rcases hr2 with (⟨rfl, ha⟩ | ⟨rfl, ha⟩) | ⟨rfl, ha⟩
    · exact sd_newarray_int hm hd ha h
    · exact sd_newarray_bool hm hd ha h
    · exact sd_newarray_long hm hd ha h
  | anewarray k =>
    obtain rfl : n = 3 := hlen rfl
    simp only [pm_res, Bool.and_eq_true, Bool.or_eq_true, beq_iff_eq] at hr
    obtain ⟨q9, hq9, hqe⟩ := List.any_eq_true.mp hr.2
    simp only [Bool.and_eq_true, beq_iff_eq] at hqe
    have hkw := List.all_eq_true.mp pm_kl_w q9 hq9
    simp only [Bool.and_eq_true, decide_eq_true_eq] at hkw
    have hcl := pm_has_mem hkw.1
    rcases hr.1 with ha | ha
    · rw [hqe.1, hqe.2.1, show q9.2.2.1 = 2 by omega] at hcl
      exact sd_anewarray_2 hm hd ha hcl h
    · rw [hqe.1, hqe.2.1, show q9.2.2.1 = 6 by omega] at hcl
      exact sd_anewarray_6 hm hd ha hcl h
  | new k =>
    obtain rfl : n = 3 := hlen rfl
    exact sd_new hm hd hr h
  | invokevirtual k =>
    obtain rfl : n = 3 := hlen rfl
    exact sd_callV hm hd hr h
  | invokespecial k =>
    obtain rfl : n = 3 := hlen rfl
    exact sd_isp hm hd hr h
  | invokestatic k =>
    obtain rfl : n = 3 := hlen rfl
    exact sd_ist hm hd hr h
  | ireturn =>
    obtain rfl : n = 1 := hlen rfl
    simp only [pm_step] at h
    split at h
    next x =>
      refine sd_ret hm h.2 ⟨own, y, cc, ml, r, na, hm, hd, ?_⟩ rfl
      have h1 := h.1
      simp only [pm_res] at hr
      unfold pm_ret at h1
      split at hr
      · exact ⟨.int, by simpa using hr, rfl⟩
      next v0 =>
      rw [if_neg v0] at h1
      split at hr
      next v1 =>
        rw [if_pos v1] at h1
        refine ⟨.boolean, by simpa using hr, ?_⟩
        rcases h1 with rfl | rfl <;> rfl
      next v1 =>
      rw [if_neg v1] at h1
      split at hr
      next v2 =>
        rw [if_pos v2] at h1
        exact ⟨.char, by simpa using hr, congrArg Value.int h1⟩
      next v2 =>
        rw [if_neg v2] at h1
        exact ⟨.byte, by simpa using hr, congrArg Value.int h1⟩
    next => exact h.elim
  | lreturn =>
    obtain rfl : n = 1 := hlen rfl
    simp only [pm_step] at h
    split at h
    next x => exact sd_ret hm h ⟨own, y, cc, ml, r, na, hm, hd, by simpa [pm_res] using hr⟩ rfl
    next => exact h.elim
  | areturn =>
    obtain rfl : n = 1 := hlen rfl
    simp only [pm_step] at h
    split at h
    next x =>
      refine sd_ret hm h ⟨own, y, cc, ml, r, na, hm, hd, ?_⟩ rfl
      simp only [pm_res] at hr
      split at hr
      next nm => exact ⟨nm, rfl⟩
      next => cases hr
    next => exact h.elim
  | return_ =>
    obtain rfl : n = 1 := hlen rfl
    simp only [pm_step] at h
    split at h
    next => exact sd_ret hm h ⟨own, y, cc, ml, r, na, hm, hd, by simpa [pm_res] using hr⟩ rfl
    next => exact h.elim
  | _ =>
    simp only [pm_step] at h
