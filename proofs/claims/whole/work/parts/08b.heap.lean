/-! SOUNDNESS of the steps that read and write cells -/
theorem pm_ob_at {ad : Nat → Nat} {I : pm_I} {R : pm_R} {a ci b : Nat} (hb : b < pm_nf ci) : (pm_ob ad I R a ci)[b]? = some (if pm_kd ci b = 2 then va_rf ((R a b).map ad) else .int (I a b)) := by
  unfold pm_ob
  rw [List.getElem?_map, List.getElem?_range hb]
  rfl
theorem pm_ob_len (ad : Nat → Nat) (I : pm_I) (R : pm_R) (a ci : Nat) : (pm_ob ad I R a ci).length = pm_nf ci := by
  unfold pm_ob
  simp
theorem pm_ob_setI {ad : Nat → Nat} {I : pm_I} {R : pm_R} {a ci b : Nat} (x : Int32) (hk : ¬ pm_kd ci b = 2) : pm_ob ad (pm_up I a (pm_up (I a) b x)) R a ci = (pm_ob ad I R a ci).set b (.int x) := by
  apply List.ext_getElem?
  intro j
  rw [List.getElem?_set]
  unfold pm_ob
  simp only [List.getElem?_map, List.length_map, List.length_range]
  by_cases hj : j < pm_nf ci
  · rw [List.getElem?_range hj]
    by_cases e : b = j
    · subst e
      simp [hj, hk, pm_up]
    · have e' : ¬ j = b := fun q => e q.symm
      simp [e, e', pm_up]
  · rw [List.getElem?_eq_none (by simpa using hj)]
    by_cases e : b = j
    · subst e
      simp [hj]
    · simp [e]
theorem pm_ob_setR {ad : Nat → Nat} {I : pm_I} {R : pm_R} {a ci b : Nat} (x : Nat) (hk : pm_kd ci b = 2) : pm_ob ad I (pm_up R a (pm_up (R a) b (some x))) a ci = (pm_ob ad I R a ci).set b (.ref (ad x)) := by
  apply List.ext_getElem?
  intro j
  rw [List.getElem?_set]
  unfold pm_ob
  simp only [List.getElem?_map, List.length_map, List.length_range]
  by_cases hj : j < pm_nf ci
  · rw [List.getElem?_range hj]
    by_cases e : b = j
    · subst e
      simp [hj, hk, pm_up, va_rf]
    · have e' : ¬ j = b := fun q => e q.symm
      simp [e, e', pm_up]
  · rw [List.getElem?_eq_none (by simpa using hj)]
    by_cases e : b = j
    · subst e
      simp [hj]
    · simp [e]
theorem pm_ce_cg {CA : Nat → ClassId} {ad : Nat → Nat} {I I' : pm_I} {L L' : pm_L} {R R' : pm_R} {a : Nat} (q : Nat × Nat) (h1 : I' a = I a) (h2 : L' a = L a) (h3 : R' a = R a) : pm_ce CA ad I' L' R' a q = pm_ce CA ad I L R a q := by
  unfold pm_ce pm_ob
  rw [h1, h2, h3]
theorem pm_up_ne {α : Type} {f : Nat → α} {k j : Nat} {x : α} (h : j ≠ k) : pm_up f k x j = f j := if_neg h
theorem pm_up_eq {α : Type} (f : Nat → α) (k : Nat) (x : α) : pm_up f k x k = x := if_pos rfl
/-- one cell changed -/
theorem pm_ws_set {CA : Nat → ClassId} {ad : Nat → Nat} {sh : pm_S} {I I' : pm_I} {L L' : pm_L} {R R' : pm_R} {r : Nat} {q : Nat × Nat} {e : va_E} (hr : sh[r]? = some q) (he : pm_ce CA ad I' L' R' r q = e) (h1 : ∀ a, a ≠ r → I' a = I a) (h2 : ∀ a, a ≠ r → L' a = L a) (h3 : ∀ a, a ≠ r → R' a = R a) :
    (pm_ws CA ad sh I L R).set r (ad r, e) = pm_ws CA ad sh I' L' R' := by
  unfold pm_ws
  refine pm_map_set hr (by rw [he]) (fun a x ha _ => ?_)
  rw [pm_ce_cg x (h1 a ha) (h2 a ha) (h3 a ha)]
theorem pm_lkn_mem {xs : List ((Nat × Nat × Nat × Nat) × Nat)} {o i a k : Nat} (h : pm_lkn xs o i a k = true) : ∃ p, ((o, i, a, k), p) ∈ xs := by
  unfold pm_lkn at h
  obtain ⟨⟨⟨o', i', a', k'⟩, p⟩, hm, hq⟩ := List.any_eq_true.mp h
  simp only [Bool.and_eq_true, beq_iff_eq] at hq
  obtain ⟨h1, h2, h3, h4⟩ := hq
  subst h1 h2 h3 h4
  exact ⟨p, hm⟩
theorem pm_fl_in {own k a b : Nat} (h : pm_lkn pm_fl own k a b = true) : Cond.fieldLink (pm_os own) k (pm_T a b).1 (pm_T a b).2.1 (pm_T a b).2.2.1 ∈ pm_tb := by
  obtain ⟨p, hm⟩ := pm_lkn_mem h
  exact pm_has_mem (List.all_eq_true.mp pm_fl_w _ hm)
theorem pm_czr {F : Value} {ad : Nat → Nat} {i : Nat} (h : i ≠ 1000003) : pm_cz F ad (.ref i) = .ref (ad i) := if_neg h
theorem pm_czo {F : Value} {ad : Nat → Nat} {o : Option Nat} (h : ∀ i, o = some i → i ≠ 1000003) : pm_cz F ad (va_rf o) = va_rf (o.map ad) := by
  cases o with
  | none => rfl
  | some i => exact pm_czr (h i rfl)
section PMH
variable {X : pm_X} {d mi pc pc' n a b : Nat} {v : Int} {t : List (Int × Nat)} {l l' : pm_l} {st st' : List Value} {c z : Nat} {sh : pm_S} {I : pm_I} {L : pm_L} {R : pm_R} {Q : pm_Q} {own : Nat} {y : MethodName} {cc : ByteArray} {ml : Nat} {r : Option FieldType} {na : Nat}
theorem sd_getfield (hm : pm_ms[mi]? = some (own, y, cc, ml, r, na)) {k : Nat} (hd : decode cc pc = .ok (.getfield k, 3)) (hr : pm_res own y r pc (.getfield k, 3, a, b, v, t) = true) (h : pm_step X (pm_snd X) (pm_snd X) (.getfield k, 3, a, b, v, t) d mi pc l st c z sh I L R Q) : pm_snd X d mi pc l st c z sh I L R Q := by
  simp only [pm_step] at h
  split at h
  next r0 rest =>
    intro p l0 e Rm s m args below meth cd F A D CA ad0 n0 H locs ls ad Qf hcx hw hx hc hz hl fin
    obtain ⟨g1, g2, g3, g4, g5⟩ := pm_cxm hcx hm
    obtain ⟨-, hex, hts, -, -, -, -, -, hK, hF, hFX, hA⟩ := id hcx
    obtain ⟨hP, hD, hS, hlen, hrs⟩ := id hw
    obtain ⟨-, -, -, -, -, -, -, -, -, hVS, -, -, -, -⟩ := hFX
    show W p l0 e Rm s m args below meth cd H locs c z Qf (F0 m pc ls (pm_cz F ad (.ref r0) :: rest.map (pm_cz F ad)))
    by_cases v1 : v = -1
    · rw [if_pos v1] at h
      obtain ⟨⟨q1, q2⟩, h⟩ := h
      have hr' : own = 20 ∧ k = 9 := by simp only [pm_res] at hr; rw [if_pos v1] at hr; simpa using hr
      obtain ⟨rfl, rfl⟩ := hr'
      obtain ⟨i, rfl⟩ : ∃ i : Nat, r0 = 1000010 + i := Nat.exists_eq_add_of_le q1
      rw [pm_czr (by omega), hx.1 (1000010 + i) (Or.inr (by omega))]
      refine vk_getf hex g1 (hVS.1 i (by omega)).2.2.1 hS g3 (hts _ pm_w_fva) (fun _ h9 => h9) hd ?_
      have e1 : Value.ref (ad0 (1000020 + i)) = pm_cz F ad (.ref (1000010 + i + 10)) := by
        rw [pm_czr (by omega), hx.1 (1000010 + i + 10) (Or.inr (by omega))]
        congr 2
        omega
      rw [e1]
      exact h p l0 e Rm s m args below meth cd F A D CA ad0 n0 H locs ls ad Qf hcx hw hx hc hz hl fin
    · rw [if_neg v1] at h
      by_cases v2 : v = -2
      · rw [if_pos v2] at h
        obtain ⟨⟨q1, q2⟩, h⟩ := h
        have hr' : own = 20 ∧ k = 15 := by simp only [pm_res] at hr; rw [if_neg v1, if_pos v2] at hr; simpa using hr
        obtain ⟨rfl, rfl⟩ := hr'
        obtain ⟨i, rfl⟩ : ∃ i : Nat, r0 = 1000010 + i := Nat.exists_eq_add_of_le q1
        rw [pm_czr (by omega), hx.1 (1000010 + i) (Or.inr (by omega))]
        exact vk_getf hex g1 (hVS.1 i (by omega)).2.1 hS g3 (hts _ pm_w_fco) (fun _ h9 => h9) hd (h p l0 e Rm s m args below meth cd F A D CA ad0 n0 H locs ls ad Qf hcx hw hx hc hz hl fin)
      · rw [if_neg v2] at h
        have hr' : pm_lkn pm_fl own k a b = true ∧ b < pm_nf a ∧ a < 9 ∧ (v = 2 ↔ pm_kd a b = 2) := by simp only [pm_res] at hr; rw [if_neg v1, if_neg v2] at hr; simpa using hr
        obtain ⟨hlk, hbn, ha9, hkd⟩ := hr'
        obtain ⟨hcl, hin, -, -, -, -, -⟩ := pm_cls ha9
        have hsh : sh[r0]? = some (0, a) := by split at h <;> exact h.1
        have hlt := pm_len1 hsh
        rw [pm_czr (by omega)]
        refine va_get (D := D) (ci := a) (C := pm_os a) (T := pm_T a) (N := pm_nf a) hex g1 hts hin g3 hK hP r0 (fs := pm_ob ad I R r0 a) (pm_ws_at hsh) hcl b hbn (hts _ (pm_fl_in hlk)) (fun _ h9 => h9) (pm_ob_at hbn) hd ?_
        by_cases v3 : v = 2
        · rw [if_pos v3] at h
          rw [if_pos (hkd.mp v3), ← pm_czo (F := F) (ad := ad) (fun i hi => by have := hrs _ _ _ hi; omega)]
          exact h.2 p l0 e Rm s m args below meth cd F A D CA ad0 n0 H locs ls ad Qf hcx hw hx hc hz hl fin
        · rw [if_neg v3] at h
          rw [if_neg (fun q => v3 (hkd.mpr q))]
          exact h.2 p l0 e Rm s m args below meth cd F A D CA ad0 n0 H locs ls ad Qf hcx hw hx hc hz hl fin
  next => exact h.elim
theorem sd_putfield (hm : pm_ms[mi]? = some (own, y, cc, ml, r, na)) {k : Nat} (hd : decode cc pc = .ok (.putfield k, 3)) (hr : pm_res own y r pc (.putfield k, 3, a, b, v, t) = true) (h : pm_step X (pm_snd X) (pm_snd X) (.putfield k, 3, a, b, v, t) d mi pc l st c z sh I L R Q) : pm_snd X d mi pc l st c z sh I L R Q := by
  have hr' : pm_lkn pm_fl own k a b = true ∧ b < pm_nf a ∧ a < 9 ∧ v = (pm_kd a b : Int) ∧ ((pm_T a b).2.2.2 = false ∨ (y.name = "<init>" ∧ (pm_T a b).1 = pm_os own)) := by simpa [pm_res] using hr
  obtain ⟨hlk, hbn, ha9, hv, hfi⟩ := hr'
  obtain ⟨hcl, hin, hty, hnm, -, -, hkk⟩ := pm_cls ha9
  simp only [pm_step] at h
  intro p l0 e Rm s m args below meth cd F A D CA ad0 n0 H locs ls ad Qf hcx hw hx hc hz hl fin
  obtain ⟨g1, g2, g3, g4, g5⟩ := pm_cxm hcx hm
  obtain ⟨-, hex, hts, -, -, -, -, -, hK, hF, hFX, hA⟩ := id hcx
  obtain ⟨hP, hD, hS, hlen, hrs⟩ := id hw
  have key : ∀ (r0 : Nat) (rest : List Value) (x : Value) (I' : pm_I) (R' : pm_R), sh[r0]? = some (0, a) → narrow (pm_ty a b) x = x → fits (pm_ty a b) x = true → pm_ob ad I' R' r0 a = (pm_ob ad I R r0 a).set b x → (∀ q, q ≠ r0 → I' q = I q) → (∀ q, q ≠ r0 → R' q = R q) → (∀ a k i, R' a k = some i → i < sh.length) →
      pm_snd X d mi (pc + 3) l rest c z sh I' L R' Q → W p l0 e Rm s m args below meth cd H locs c z Qf (F0 m pc ls (x :: .ref (ad r0) :: rest.map (pm_cz F ad))) := by
    intro r0 rest x I' R' hsh hn hf hob h1 h3 hrs' h
    have kk : ∀ (H1 : Heap) (locs1 : List Loc), va_P D vwCl ((pm_ws CA ad sh I L R).set r0 (ad r0, .inr (a, (pm_ob ad I R r0 a).set b x))) H1 → va_D A ((pm_ws CA ad sh I L R).set r0 (ad r0, .inr (a, (pm_ob ad I R r0 a).set b x))) → va_S A s.heap H1 locs1 →
        W p l0 e Rm s m args below meth cd H1 locs1 c z Qf (F0 m (pc + 3) ls (rest.map (pm_cz F ad))) := by
      intro H1 locs1 hP1 hD1 hS1
      have e1 : (pm_ws CA ad sh I L R).set r0 (ad r0, .inr (a, (pm_ob ad I R r0 a).set b x)) = pm_ws CA ad sh I' L R' := pm_ws_set hsh (by show (Sum.inr (a, pm_ob ad I' R' r0 a) : va_E) = _; rw [hob]) h1 (fun _ _ => rfl) h3
      rw [e1] at hP1 hD1
      exact h p l0 e Rm s m args below meth cd F A D CA ad0 n0 H1 locs1 ls ad Qf hcx ⟨hP1, hD1, hS1, hlen, hrs'⟩ hx hc hz hl fin
    rcases hfi with hfi | ⟨hi1, hi2⟩
    · exact va_put (D := D) (ci := a) (C := pm_os a) (T := pm_T a) (N := pm_nf a) hex g1 hts hin (pm_ty a) hty hnm g3 hK hP hD hS r0 (fs := pm_ob ad I R r0 a) (pm_ws_at hsh) hcl b hbn (hts _ (pm_fl_in hlk)) (fun _ h9 => h9) hfi (hty b hbn) hn hf (by rw [pm_ob_len]; exact hbn) hd kk
    · by_cases hfi : (pm_T a b).2.2.2 = false
      · exact va_put (D := D) (ci := a) (C := pm_os a) (T := pm_T a) (N := pm_nf a) hex g1 hts hin (pm_ty a) hty hnm g3 hK hP hD hS r0 (fs := pm_ob ad I R r0 a) (pm_ws_at hsh) hcl b hbn (hts _ (pm_fl_in hlk)) (fun _ h9 => h9) hfi (hty b hbn) hn hf (by rw [pm_ob_len]; exact hbn) hd kk
      · exact va_putF (D := D) (ci := a) (C := pm_os a) (T := pm_T a) (N := pm_nf a) hex g1 hts hin (pm_ty a) hty hnm g3 hK hP hD hS r0 (fs := pm_ob ad I R r0 a) (pm_ws_at hsh) hcl b hbn (hts _ (pm_fl_in hlk)) (fun _ h9 => h9) (by simpa using hfi) (g5 hi1) hi2 (hty b hbn) hn hf (by rw [pm_ob_len]; exact hbn) hd kk
  split at h
  next x r0 rest =>
    obtain ⟨hsh, hv2, hv1, h⟩ := h
    have hlt := pm_len1 hsh
    have hkd : ¬ pm_kd a b = 2 := fun q => hv2 (by rw [hv, q]; rfl)
    show W p l0 e Rm s m args below meth cd H locs c z Qf (F0 m pc ls (.int x :: pm_cz F ad (.ref r0) :: rest.map (pm_cz F ad)))
    rw [pm_czr (by omega)]
    have hnf : narrow (pm_ty a b) (.int x) = .int x ∧ fits (pm_ty a b) (.int x) = true := by
      rcases hkk b hbn with ⟨h1, h2⟩ | ⟨h1, h2⟩ | ⟨h1, h2⟩
      · rw [h2]; exact ⟨rfl, rfl⟩
      · rw [h2]
        rcases hv1 (by rw [hv, h1]; rfl) with rfl | rfl <;> exact ⟨rfl, rfl⟩
      · exact absurd h1 hkd
    exact key r0 rest (.int x) _ R hsh hnf.1 hnf.2 (pm_ob_setI x hkd) (fun q hq => pm_up_ne hq) (fun _ _ => rfl) hrs h
  next x r0 rest =>
    obtain ⟨hsh, hv2, hxs, h⟩ := h
    have hlt := pm_len1 hsh
    have hkd : pm_kd a b = 2 := by rw [hv] at hv2; exact Int.ofNat.inj hv2
    show W p l0 e Rm s m args below meth cd H locs c z Qf (F0 m pc ls (pm_cz F ad (.ref x) :: pm_cz F ad (.ref r0) :: rest.map (pm_cz F ad)))
    have hxs' : (x : Nat) ≠ 1000003 := Nat.ne_of_lt (Nat.lt_of_lt_of_le hxs (Nat.le_trans hlen (by omega)))
    rw [pm_czr (i := r0) (by omega), pm_czr (i := x) hxs']
    have hnf : narrow (pm_ty a b) (.ref (ad x)) = .ref (ad x) ∧ fits (pm_ty a b) (.ref (ad x)) = true := by
      rcases hkk b hbn with ⟨h1, h2⟩ | ⟨h1, h2⟩ | ⟨h1, ⟨n9, h2⟩ | ⟨n9, h2⟩⟩
      · omega
      · omega
      · rw [h2]; exact ⟨rfl, rfl⟩
      · rw [h2]; exact ⟨rfl, rfl⟩
    refine key r0 rest (.ref (ad x)) I _ hsh hnf.1 hnf.2 (pm_ob_setR x hkd) (fun _ _ => rfl) (fun q hq => pm_up_ne hq) (fun a1 k1 i1 hi => ?_) h
    by_cases ha1 : a1 = r0
    · subst ha1
      rw [pm_up_eq] at hi
      by_cases hk1 : k1 = b
      · subst hk1
        rw [pm_up_eq] at hi
        cases hi
        exact hxs
      · rw [pm_up_ne hk1] at hi
        exact hrs _ _ _ hi
    · rw [pm_up_ne ha1] at hi
      exact hrs _ _ _ hi
  next => exact h.elim
theorem sd_iastore (hm : pm_ms[mi]? = some (own, y, cc, ml, r, na)) (hd : decode cc pc = .ok (.iastore, 1)) (h : pm_step X (pm_snd X) (pm_snd X) (.iastore, 1, a, b, v, t) d mi pc l st c z sh I L R Q) : pm_snd X d mi pc l st c z sh I L R Q := by
  simp only [pm_step] at h
  split at h
  next x0 i0 r0 rest =>
    intro p l0 e Rm s m args below meth cd F A D CA ad0 n0 H locs ls ad Qf hcx hw hx hc hz hl fin
    obtain ⟨g1, g2, g3, g4, g5⟩ := pm_cxm hcx hm
    obtain ⟨-, hex, hts, -, -, -, -, -, hK, hF, hFX, hA⟩ := id hcx
    obtain ⟨hP, hD, hS, hlen, hrs⟩ := id hw
    obtain ⟨hin, h⟩ := h
    obtain ⟨k, hsh, hin⟩ := pm_ln_some hin
    have hlt := pm_len1 hsh
    show W p l0 e Rm s m args below meth cd H locs c z Qf (F0 m pc ls (.int x0 :: .int i0 :: pm_cz F ad (.ref r0) :: rest.map (pm_cz F ad)))
    rw [pm_czr (by omega)]
    refine va_iast hex g1 hK hP hD hS r0 0 (pm_ws_at hsh) (rfl : (pm_tys CA)[0]? = _) hin hd (fun H1 locs1 hP1 hD1 hS1 => ?_)
    rw [pm_ws_set (I' := pm_up I r0 (pm_up (I r0) i0.toNatClampNeg x0)) (L' := L) (R' := R) hsh (by show (Sum.inl (CA 1, k, .inl (pm_up I r0 (pm_up (I r0) i0.toNatClampNeg x0) r0)) : va_E) = _; rw [pm_up_eq]; rfl) (fun q hq => pm_up_ne hq) (fun q hq => rfl) (fun _ _ => rfl)] at hP1 hD1
    exact h p l0 e Rm s m args below meth cd F A D CA ad0 n0 H1 locs1 ls ad Qf hcx ⟨hP1, hD1, hS1, hlen, hrs⟩ hx hc hz hl fin
  next => exact h.elim
theorem sd_bastore (hm : pm_ms[mi]? = some (own, y, cc, ml, r, na)) (hd : decode cc pc = .ok (.bastore, 1)) (h : pm_step X (pm_snd X) (pm_snd X) (.bastore, 1, a, b, v, t) d mi pc l st c z sh I L R Q) : pm_snd X d mi pc l st c z sh I L R Q := by
  simp only [pm_step] at h
  split at h
  next x0 i0 r0 rest =>
    intro p l0 e Rm s m args below meth cd F A D CA ad0 n0 H locs ls ad Qf hcx hw hx hc hz hl fin
    obtain ⟨g1, g2, g3, g4, g5⟩ := pm_cxm hcx hm
    obtain ⟨-, hex, hts, -, -, -, -, -, hK, hF, hFX, hA⟩ := id hcx
    obtain ⟨hP, hD, hS, hlen, hrs⟩ := id hw
    obtain ⟨hin, h⟩ := h
    obtain ⟨k, hsh, hin⟩ := pm_ln_some hin
    have hlt := pm_len1 hsh
    show W p l0 e Rm s m args below meth cd H locs c z Qf (F0 m pc ls (.int x0 :: .int i0 :: pm_cz F ad (.ref r0) :: rest.map (pm_cz F ad)))
    rw [pm_czr (by omega)]
    refine va_zast hex g1 hK hP hD hS r0 1 (pm_ws_at hsh) (rfl : (pm_tys CA)[1]? = _) hin hd (fun H1 locs1 hP1 hD1 hS1 => ?_)
    rw [pm_ws_set (I' := pm_up I r0 (pm_up (I r0) i0.toNatClampNeg (vp_nar .boolean x0))) (L' := L) (R' := R) hsh (by show (Sum.inl (CA 2, k, .inl (pm_up I r0 (pm_up (I r0) i0.toNatClampNeg (vp_nar .boolean x0)) r0)) : va_E) = _; rw [pm_up_eq]; rfl) (fun q hq => pm_up_ne hq) (fun q hq => rfl) (fun _ _ => rfl)] at hP1 hD1
    exact h p l0 e Rm s m args below meth cd F A D CA ad0 n0 H1 locs1 ls ad Qf hcx ⟨hP1, hD1, hS1, hlen, hrs⟩ hx hc hz hl fin
  next => exact h.elim
theorem sd_lastore (hm : pm_ms[mi]? = some (own, y, cc, ml, r, na)) (hd : decode cc pc = .ok (.lastore, 1)) (h : pm_step X (pm_snd X) (pm_snd X) (.lastore, 1, a, b, v, t) d mi pc l st c z sh I L R Q) : pm_snd X d mi pc l st c z sh I L R Q := by
  simp only [pm_step] at h
  split at h
  next x0 i0 r0 rest =>
    intro p l0 e Rm s m args below meth cd F A D CA ad0 n0 H locs ls ad Qf hcx hw hx hc hz hl fin
    obtain ⟨g1, g2, g3, g4, g5⟩ := pm_cxm hcx hm
    obtain ⟨-, hex, hts, -, -, -, -, -, hK, hF, hFX, hA⟩ := id hcx
    obtain ⟨hP, hD, hS, hlen, hrs⟩ := id hw
    obtain ⟨hin, h⟩ := h
    obtain ⟨k, hsh, hin⟩ := pm_ln_some hin
    have hlt := pm_len1 hsh
    show W p l0 e Rm s m args below meth cd H locs c z Qf (F0 m pc ls (.long x0 :: .int i0 :: pm_cz F ad (.ref r0) :: rest.map (pm_cz F ad)))
    rw [pm_czr (by omega)]
    refine va_last hex g1 hK hP hD hS r0 2 (pm_ws_at hsh) (rfl : (pm_tys CA)[2]? = _) hin hd (fun H1 locs1 hP1 hD1 hS1 => ?_)
    rw [pm_ws_set (I' := I) (L' := pm_up L r0 (pm_up (L r0) i0.toNatClampNeg x0)) (R' := R) hsh (by show (Sum.inl (CA 3, k, .inr (.inl (pm_up L r0 (pm_up (L r0) i0.toNatClampNeg x0) r0))) : va_E) = _; rw [pm_up_eq]; rfl) (fun q hq => rfl) (fun q hq => pm_up_ne hq) (fun _ _ => rfl)] at hP1 hD1
    exact h p l0 e Rm s m args below meth cd F A D CA ad0 n0 H1 locs1 ls ad Qf hcx ⟨hP1, hD1, hS1, hlen, hrs⟩ hx hc hz hl fin
  next => exact h.elim
theorem sd_laload (hm : pm_ms[mi]? = some (own, y, cc, ml, r, na)) (hd : decode cc pc = .ok (.laload, 1)) (h : pm_step X (pm_snd X) (pm_snd X) (.laload, 1, a, b, v, t) d mi pc l st c z sh I L R Q) : pm_snd X d mi pc l st c z sh I L R Q := by
  simp only [pm_step] at h
  split at h
  next i0 r0 rest =>
    intro p l0 e Rm s m args below meth cd F A D CA ad0 n0 H locs ls ad Qf hcx hw hx hc hz hl fin
    obtain ⟨g1, g2, g3, g4, g5⟩ := pm_cxm hcx hm
    obtain ⟨-, hex, hts, -, -, -, -, -, hK, hF, hFX, hA⟩ := id hcx
    obtain ⟨hP, hD, hS, hlen, hrs⟩ := id hw
    obtain ⟨hin, h⟩ := h
    have h := h p l0 e Rm s m args below meth cd F A D CA ad0 n0 H locs ls ad Qf hcx hw hx hc hz hl fin
    obtain ⟨k, hsh, hin⟩ := pm_ln_some hin
    have hlt := pm_len1 hsh
    show W p l0 e Rm s m args below meth cd H locs c z Qf (F0 m pc ls (.int i0 :: pm_cz F ad (.ref r0) :: rest.map (pm_cz F ad)))
    rw [pm_czr (by omega)]
    exact va_lald hex g1 hK hP r0 2 (pm_ws_at hsh) (rfl : (pm_tys CA)[2]? = some (CA 3, .long)) hin hd h
  next => exact h.elim
theorem sd_arraylength (hm : pm_ms[mi]? = some (own, y, cc, ml, r, na)) (hd : decode cc pc = .ok (.arraylength, 1)) (h : pm_step X (pm_snd X) (pm_snd X) (.arraylength, 1, a, b, v, t) d mi pc l st c z sh I L R Q) : pm_snd X d mi pc l st c z sh I L R Q := by
  simp only [pm_step] at h
  split at h
  next r0 rest =>
    intro p l0 e Rm s m args below meth cd F A D CA ad0 n0 H locs ls ad Qf hcx hw hx hc hz hl fin
    obtain ⟨g1, g2, g3, g4, g5⟩ := pm_cxm hcx hm
    obtain ⟨-, hex, hts, -, -, -, -, -, hK, hF, hFX, hA⟩ := id hcx
    obtain ⟨hP, hD, hS, hlen, hrs⟩ := id hw
    obtain ⟨hX, hXl, hXA, -, hT1, -, hT2, -, -, hVS, -, -, -, -⟩ := hFX
    show W p l0 e Rm s m args below meth cd H locs c z Qf (F0 m pc ls (pm_cz F ad (.ref r0) :: rest.map (pm_cz F ad)))
    split at h
    · split at h
      next k hk =>
        have hsh : sh[r0]? = some (1, k) := by
          unfold pm_al at hk
          split at hk
          next n9 h9 => cases hk; exact h9
          next => cases hk
        have hlt := pm_len1 hsh
        rw [pm_czr (by omega)]
        exact va_alen hex g1 hK hP r0 0 (pm_ws_at hsh) (rfl : (pm_tys CA)[0]? = some (CA 1, .int)) rfl hd (h p l0 e Rm s m args below meth cd F A D CA ad0 n0 H locs ls ad Qf hcx hw hx hc hz hl fin)
      next => exact h.elim
    · split at h
      · obtain ⟨hq, h⟩ := h
        have h := h p l0 e Rm s m args below meth cd F A D CA ad0 n0 H locs ls ad Qf hcx hw hx hc hz hl fin
        rcases hq with rfl | rfl | rfl
        · rw [pm_czr (by omega), hx.1 1000000 (Or.inr (by omega))]
          exact va_slen hex g1 hX hXl hXA hS hd h
        · rw [pm_czr (by omega), hx.1 1000001 (Or.inr (by omega))]
          exact va_tlen hex g1 hT1 hS rfl hd h
        · rw [pm_czr (by omega), hx.1 1000002 (Or.inr (by omega))]
          exact va_tlen hex g1 hT2 hS rfl hd h
      · obtain ⟨⟨q1, q2⟩, h⟩ := h
        have h := h p l0 e Rm s m args below meth cd F A D CA ad0 n0 H locs ls ad Qf hcx hw hx hc hz hl fin
        obtain ⟨i, rfl⟩ : ∃ i : Nat, r0 = 1000020 + i := Nat.exists_eq_add_of_le q1
        rw [pm_czr (by omega), hx.1 (1000020 + i) (Or.inr (by omega))]
        refine va_tlen hex g1 (hVS.1 i (by omega)).2.2.2 hS (v := Int32.ofNat (pm_fs (1000020 + i)).length) ?_ hd h
        have hi5 : i < 5 := by omega
        match i, hi5 with
        | 0, _ => rfl
        | 1, _ => rfl
        | 2, _ => rfl
        | 3, _ => rfl
        | 4, _ => rfl
  next => exact h.elim
theorem sd_iaload (hm : pm_ms[mi]? = some (own, y, cc, ml, r, na)) (hd : decode cc pc = .ok (.iaload, 1)) (h : pm_step X (pm_snd X) (pm_snd X) (.iaload, 1, a, b, v, t) d mi pc l st c z sh I L R Q) : pm_snd X d mi pc l st c z sh I L R Q := by
  simp only [pm_step] at h
  split at h
  next i0 r0 rest =>
    intro p l0 e Rm s m args below meth cd F A D CA ad0 n0 H locs ls ad Qf hcx hw hx hc hz hl fin
    obtain ⟨g1, g2, g3, g4, g5⟩ := pm_cxm hcx hm
    obtain ⟨-, hex, hts, -, -, -, -, -, hK, hF, hFX, hA⟩ := id hcx
    obtain ⟨hP, hD, hS, hlen, hrs⟩ := id hw
    obtain ⟨hX, hXl, hXA, -, hT1, -, hT2, -, -, hVS, -, -, -, -⟩ := hFX
    show W p l0 e Rm s m args below meth cd H locs c z Qf (F0 m pc ls (.int i0 :: pm_cz F ad (.ref r0) :: rest.map (pm_cz F ad)))
    split at h
    · obtain ⟨hin, h⟩ := h
      have h := h p l0 e Rm s m args below meth cd F A D CA ad0 n0 H locs ls ad Qf hcx hw hx hc hz hl fin
      obtain ⟨k, hsh, hin⟩ := pm_ln_some hin
      have hlt := pm_len1 hsh
      rw [pm_czr (by omega)]
      exact va_iald hex g1 hK hP r0 0 (pm_ws_at hsh) (rfl : (pm_tys CA)[0]? = some (CA 1, .int)) hin hd h
    · obtain ⟨hin, h⟩ := h
      have h := h p l0 e Rm s m args below meth cd F A D CA ad0 n0 H locs ls ad Qf hcx hw hx hc hz hl fin
      by_cases e0 : r0 = 1000000
      · subst e0
        rw [pm_czr (by omega), hx.1 1000000 (Or.inr (by omega))]
        exact va_sld hex g1 hX hXl hXA hS hin hd h
      · by_cases e1 : r0 = 1000001
        · subst e1
          rw [pm_czr (by omega), hx.1 1000001 (Or.inr (by omega))]
          exact va_ti hex g1 hT1 hS hin rfl hd h
        · by_cases e2 : r0 = 1000002
          · subst e2
            rw [pm_czr (by omega), hx.1 1000002 (Or.inr (by omega))]
            exact va_ti hex g1 hT2 hS hin rfl hd h
          · unfold pm_fa at hin
            rw [if_neg e0, if_neg e1, if_neg e2] at hin
            exact absurd (Nat.zero_le _) (fun q => hin (Or.inr q))
  next => exact h.elim
theorem sd_baload (hm : pm_ms[mi]? = some (own, y, cc, ml, r, na)) (hd : decode cc pc = .ok (.baload, 1)) (h : pm_step X (pm_snd X) (pm_snd X) (.baload, 1, a, b, v, t) d mi pc l st c z sh I L R Q) : pm_snd X d mi pc l st c z sh I L R Q := by
  simp only [pm_step] at h
  split at h
  next i0 r0 rest =>
    intro p l0 e Rm s m args below meth cd F A D CA ad0 n0 H locs ls ad Qf hcx hw hx hc hz hl fin
    obtain ⟨g1, g2, g3, g4, g5⟩ := pm_cxm hcx hm
    obtain ⟨-, hex, hts, -, -, -, -, -, hK, hF, hFX, hA⟩ := id hcx
    obtain ⟨hP, hD, hS, hlen, hrs⟩ := id hw
    obtain ⟨hX, hXl, hXA, -, hT1, -, hT2, -, -, hVS, -, -, -, -⟩ := hFX
    show W p l0 e Rm s m args below meth cd H locs c z Qf (F0 m pc ls (.int i0 :: pm_cz F ad (.ref r0) :: rest.map (pm_cz F ad)))
    split at h
    · obtain ⟨hin, h⟩ := h
      have h := h p l0 e Rm s m args below meth cd F A D CA ad0 n0 H locs ls ad Qf hcx hw hx hc hz hl fin
      obtain ⟨k, hsh, hin⟩ := pm_ln_some hin
      have hlt := pm_len1 hsh
      rw [pm_czr (by omega)]
      exact va_zald hex g1 hK hP r0 1 (pm_ws_at hsh) (rfl : (pm_tys CA)[1]? = some (CA 2, .boolean)) hin hd h
    · obtain ⟨hin, h⟩ := h
      have h := h p l0 e Rm s m args below meth cd F A D CA ad0 n0 H locs ls ad Qf hcx hw hx hc hz hl fin
      have hq : ∃ i : Nat, i < 5 ∧ r0 = 1000020 + i := by
        unfold pm_fs at hin
        split at hin
        next h9 => exact ⟨0, by omega, h9⟩
        split at hin
        next h9 => exact ⟨1, by omega, h9⟩
        split at hin
        next h9 => exact ⟨2, by omega, h9⟩
        split at hin
        next h9 => exact ⟨3, by omega, h9⟩
        split at hin
        next h9 => exact ⟨4, by omega, h9⟩
        exact absurd (Nat.zero_le _) (fun q => hin (Or.inr q))
      obtain ⟨i, hi5, rfl⟩ := hq
      rw [pm_czr (by omega), hx.1 (1000020 + i) (Or.inr (by omega))]
      have e9 : ([6, 6, 4, 4, 3] : List Nat).getD i 0 = (pm_fs (1000020 + i)).length ∧ ([pm_fs 1000020, pm_fs 1000021, pm_fs 1000022, pm_fs 1000023, pm_fs 1000024] : List (List Int32)).getD i [] = pm_fs (1000020 + i) := by
        match i, hi5 with
        | 0, _ => exact ⟨rfl, rfl⟩
        | 1, _ => exact ⟨rfl, rfl⟩
        | 2, _ => exact ⟨rfl, rfl⟩
        | 3, _ => exact ⟨rfl, rfl⟩
        | 4, _ => exact ⟨rfl, rfl⟩
      have hT := (hVS.1 i hi5).2.2.2
      rw [e9.1, e9.2] at hT
      exact va_tb hex g1 hT hS hin rfl hd h
  next => exact h.elim
theorem sd_aaload (hm : pm_ms[mi]? = some (own, y, cc, ml, r, na)) (hd : decode cc pc = .ok (.aaload, 1)) (ha : a = 6 ∨ a = 10) (h : pm_step X (pm_snd X) (pm_snd X) (.aaload, 1, a, b, v, t) d mi pc l st c z sh I L R Q) : pm_snd X d mi pc l st c z sh I L R Q := by
  simp only [pm_step] at h
  split at h
  next i0 r0 rest =>
    intro p l0 e Rm s m args below meth cd F A D CA ad0 n0 H locs ls ad Qf hcx hw hx hc hz hl fin
    obtain ⟨g1, g2, g3, g4, g5⟩ := pm_cxm hcx hm
    obtain ⟨-, hex, hts, -, -, -, -, -, hK, hF, hFX, hA⟩ := id hcx
    obtain ⟨hP, hD, hS, hlen, hrs⟩ := id hw
    show W p l0 e Rm s m args below meth cd H locs c z Qf (F0 m pc ls (.int i0 :: pm_cz F ad (.ref r0) :: rest.map (pm_cz F ad)))
    obtain ⟨hin, -, h⟩ := h
    have h := h p l0 e Rm s m args below meth cd F A D CA ad0 n0 H locs ls ad Qf hcx hw hx hc hz hl fin
    rw [List.map_cons, pm_czo (fun i hi => by have := hrs _ _ _ hi; omega)] at h
    obtain ⟨k, hsh, hin'⟩ := pm_ln_some hin
    have hlt := pm_len1 hsh
    rw [pm_czr (by omega)]
    clear hin
    rcases ha with rfl | rfl
    · exact va_aldq (f := fun j => (R r0 j).map ad) hex g1 hK hP r0 3 (pm_ws_at hsh) (rfl : (pm_tys CA)[3]? = some (CA 6, .object RX2)) hin' hd h
    · exact va_aldq (f := fun j => (R r0 j).map ad) hex g1 hK hP r0 4 (pm_ws_at hsh) (rfl : (pm_tys CA)[4]? = some (CA 10, .object RX6)) hin' hd h
  next => exact h.elim
theorem sd_aastore (hm : pm_ms[mi]? = some (own, y, cc, ml, r, na)) (hd : decode cc pc = .ok (.aastore, 1)) (ha : a = 6 ∨ a = 10) (h : pm_step X (pm_snd X) (pm_snd X) (.aastore, 1, a, b, v, t) d mi pc l st c z sh I L R Q) : pm_snd X d mi pc l st c z sh I L R Q := by
  simp only [pm_step] at h
  split at h
  next x0 i0 r0 rest =>
    intro p l0 e Rm s m args below meth cd F A D CA ad0 n0 H locs ls ad Qf hcx hw hx hc hz hl fin
    obtain ⟨g1, g2, g3, g4, g5⟩ := pm_cxm hcx hm
    obtain ⟨-, hex, hts, -, -, -, -, -, hK, hF, hFX, hA⟩ := id hcx
    obtain ⟨hP, hD, hS, hlen, hrs⟩ := id hw
    obtain ⟨hin, -, hxs, h⟩ := h
    obtain ⟨k, hsh, hin'⟩ := pm_ln_some hin
    clear hin
    have hlt := pm_len1 hsh
    have hlx := pm_len1 hxs
    show W p l0 e Rm s m args below meth cd H locs c z Qf (F0 m pc ls (pm_cz F ad (.ref x0) :: .int i0 :: pm_cz F ad (.ref r0) :: rest.map (pm_cz F ad)))
    rw [pm_czr (i := x0) (by omega), pm_czr (i := r0) (by omega)]
    have hrs' : ∀ a1 k1 i1, pm_up R r0 (pm_up (R r0) i0.toNatClampNeg (some x0)) a1 k1 = some i1 → i1 < sh.length := by
      intro a1 k1 i1 hi
      by_cases ha1 : a1 = r0
      · subst ha1
        rw [pm_up_eq] at hi
        by_cases hk1 : k1 = i0.toNatClampNeg
        · subst hk1
          rw [pm_up_eq] at hi
          cases hi
          exact hlx
        · rw [pm_up_ne hk1] at hi
          exact hrs _ _ _ hi
      · rw [pm_up_ne ha1] at hi
        exact hrs _ _ _ hi
    have ef : (fun j => (pm_up R r0 (pm_up (R r0) i0.toNatClampNeg (some x0)) r0 j).map ad) = va_up (fun j => (R r0 j).map ad) i0.toNatClampNeg (some (ad x0)) := by
      funext j
      rw [pm_up_eq]
      unfold pm_up va_up
      by_cases hj : j = i0.toNatClampNeg
      · simp [hj]
      · simp [hj]
    rcases ha with rfl | rfl
    · refine va_astq (r := (RX2, TX2, 10)) (f := fun j => (R r0 j).map ad) hex g1 hK hP hD hS r0 3 x0 2 (pm_ws_at hsh) (rfl : (pm_tys CA)[3]? = some (CA 6, .object RX2)) (pm_ws_at hxs) rfl hin' hd (fun H1 locs1 hP1 hD1 hS1 => ?_)
      rw [pm_ws_set (L' := L) (I' := I) (R' := pm_up R r0 (pm_up (R r0) i0.toNatClampNeg (some x0))) hsh (by show (Sum.inl (CA 6, k, .inr (.inr (.inr (.inr (fun j => (pm_up R r0 (pm_up (R r0) i0.toNatClampNeg (some x0)) r0 j).map ad))))) : va_E) = _; rw [ef]) (fun _ _ => rfl) (fun _ _ => rfl) (fun q hq => pm_up_ne hq)] at hP1 hD1
      exact h p l0 e Rm s m args below meth cd F A D CA ad0 n0 H1 locs1 ls ad Qf hcx ⟨hP1, hD1, hS1, hlen, hrs'⟩ hx hc hz hl fin
    · refine va_astq (r := (RX6, TX6, 3)) (f := fun j => (R r0 j).map ad) hex g1 hK hP hD hS r0 4 x0 6 (pm_ws_at hsh) (rfl : (pm_tys CA)[4]? = some (CA 10, .object RX6)) (pm_ws_at hxs) rfl hin' hd (fun H1 locs1 hP1 hD1 hS1 => ?_)
      rw [pm_ws_set (L' := L) (I' := I) (R' := pm_up R r0 (pm_up (R r0) i0.toNatClampNeg (some x0))) hsh (by show (Sum.inl (CA 10, k, .inr (.inr (.inr (.inr (fun j => (pm_up R r0 (pm_up (R r0) i0.toNatClampNeg (some x0)) r0 j).map ad))))) : va_E) = _; rw [ef]) (fun _ _ => rfl) (fun _ _ => rfl) (fun q hq => pm_up_ne hq)] at hP1 hD1
      exact h p l0 e Rm s m args below meth cd F A D CA ad0 n0 H1 locs1 ls ad Qf hcx ⟨hP1, hD1, hS1, hlen, hrs'⟩ hx hc hz hl fin
  next => exact h.elim
end PMH
