/-! BOTH SIDES: tapes -/
section TAPE
variable {X : pm_X} {d n kc : Nat} {I I' : pm_I} {K : Nat → Nat} {L L' : pm_L}
theorem rel_tp (r : REL n kc I K L I L) (tp : TPR I' L' I' L') (E : ∀ a, ((a < 110) ∨ (121 < a ∧ a < 166) ∨ 167 < a) → I' a = I a) : REL n kc I' K L' I' L' := by
  obtain ⟨pl, ki, cu, tx, sn, af, bk, im, ac, -, lt⟩ := r
  have e := E 122 (by omega)
  exact ⟨c_pl pl (fun a h => E a (by omega)) (fun j _ => by rw [e]), c_ki ki (by rw [E 0 (by omega)]) (by rw [e]) (fun a h => E a (by omega)), by rw [e]; exact cu, c_tx tx (by rw [E 2 (by omega)]) (E 3 (by omega)) (by rw [e]) (E 129 (by omega)), k_sn sn (fun a ha => E a (by omega)) (by rw [e]), k_af af (fun a ha => E a (by omega)) (by rw [e]), k_bk bk (fun a ha => E a (by omega)) (by rw [e]), c_im im (by rw [E 0 (by omega)]) (fun a h => E a (by omega)) (fun j _ _ => by rw [e]), c_ac ac (by rw [E 28 (by omega)]) (E 29 (by omega)) (by rw [e]) (E 165 (by omega)), tp, c_lt lt (E 137 (by omega))⟩
theorem ta_x {t s x : Int32} (h : taO t s x = none) : s = -1 ∨ ∃ c, c ≤ 4 ∧ s = nI c := by
  unfold taO at h
  split at h
  · cases h
  split at h
  · rename_i a; exact Or.inl a
  split at h
  · cases h
  rename_i a
  exact Or.inr (inP_of (m := 4) (by omega) (Decidable.not_not.mp (fun z => a (Or.inl z))))
theorem q_tape {t s x : Int32} : PCi X (d + 24) 108 [(0, .ref 0), (1, .int t), (2, .int s), (3, .int x)] 215 [(0, .ref 122), (1, .int t), (2, .int s), (3, .int x)] := by
  intro n kc I K L r Q h
  have tp := r.2.2.2.2.2.2.2.2.2.1
  refine w_tape (fun a e => h _ _ _ _ (fun Q2 h2 => ?_)) (fun tt m e ht et hm em L1 l1 l2 => h _ _ _ _ (fun Q2 h2 => ?_))
  · refine m_tape (fun b e' => ?_) (fun tt m e' => ?_)
    · rw [e] at e'; cases e'; exact h2 _ _ _ _ _ r
    · rw [e] at e'; cases e'
  · refine m_tape (fun b e' => ?_) (fun tt' m' e' ht' et' hm' em' I2 L2 c6 c7 c k1 k2 => ?_)
    · rw [e] at e'; cases e'
    have e1 : tt = tt' := (nI_eq (by omega) (by omega)).mp (et.symm.trans et')
    have e2 : m = m' := (nI_eq (by omega) (by omega)).mp (em.trans em'.symm)
    subst e1
    subst e2
    have hm1 : ∀ (y : Nat → Int32) a, ¬ a = 110 + 2 * tt → pm_up I (110 + 2 * tt) y a = I a := fun y a ha => if_neg ha
    rw [hm1 _ 166 (by omega)] at c6
    rw [hm1 _ 167 (by omega)] at c7
    have hT : ∀ t, t < 6 → I2 (110 + 2 * t) = if t = tt then pm_up (pm_up (I (110 + 2 * tt)) 0 s) 1 (nI m) else I (110 + 2 * t) := by
      intro t ht
      rw [c _ (by omega) (by omega)]
      unfold pm_up
      by_cases a : t = tt
      · subst a; rw [if_pos rfl, if_pos rfl]
      · rw [if_neg (by omega), if_neg a]
    have hLc : ∀ t j, t < 6 → L2 (111 + 2 * t) j = if t = tt then (if j < m then 0 else L (111 + 2 * tt) j) else L (111 + 2 * t) j := by
      intro t j ht
      rw [k2 _ (by omega)]
      by_cases a : t = tt
      · subst a; rw [if_pos rfl, l1]
      · rw [if_neg a, l2 _ (by omega)]
    have hLm : ∀ t j, t < 6 → j < 60 → L2 168 (60 * t + j) = if t = tt then 0 else L 168 (60 * t + j) := by
      intro t j ht hj
      rw [k1]
      by_cases a : t = tt
      · subst a; rw [if_pos rfl, if_pos (by omega)]
      · rw [if_neg a, if_neg (by omega), l2 168 (by omega)]
    refine h2 n kc _ K _ (rel_tp r ⟨fun t ht => ?_, fun t ht => ?_⟩ (fun a ha => (c a (by omega) (by omega)).trans (hm1 _ a (by omega))))
    · rw [c6, c7]
      unfold pm_up
      by_cases a : t = tt
      · simp only [if_pos a]
        rcases ta_x e with z | z
        · refine Or.inl ⟨z, ?_⟩
          rw [em, if_pos z]
        · exact Or.inr ⟨z, m, hm, rfl⟩
      · simp only [if_neg a]; exact tp.1 t ht
    · obtain ⟨t1, t2, t3⟩ := tp.2 t ht
      show I2 (110 + 2 * t) 0 = _ ∧ I2 (110 + 2 * t) 1 = _ ∧ ∀ m', m' ≤ 60 → _ → ∀ j, j < m' → L2 (111 + 2 * t) j = L2 168 (60 * t + j)
      rw [hT t ht, c6, c7]
      by_cases a : t = tt
      · subst a
        rw [if_pos rfl]
        refine ⟨?_, ?_, fun m' hm' e j hj => ?_⟩
        · unfold pm_up; rw [if_neg (by omega), if_pos rfl, if_pos rfl]
        · unfold pm_up; rw [if_pos rfl, if_pos rfl]
        · have : m = m' := (nI_eq (by omega) (by omega)).mp ((if_pos rfl).symm.trans e)
          subst this
          rw [hLc t j ht, hLm t j ht (by omega), if_pos rfl, if_pos rfl, if_pos hj]
      · rw [if_neg a]
        refine ⟨t1.trans (if_neg a).symm, t2.trans (if_neg a).symm, fun m' hm' e j hj => ?_⟩
        rw [hLc t j ht, hLm t j ht (by omega), if_neg a, if_neg a]
        exact t3 m' hm' ((if_neg a).symm.trans e) j hj
theorem it_eq {S Z S' Z' : Nat → Int32} (h : ∀ t, t < 6 → S t = S' t ∧ Z t = Z' t) (t i : Int32) : itO S Z t i = itO S' Z' t i := by
  unfold itO
  by_cases a : inP t 0 5
  · obtain ⟨t, ht, rfl⟩ := inP_of (m := 5) (by omega) a
    rw [nI_clamp (by omega), (h t (by omega)).1, (h t (by omega)).2]
  · rw [if_pos a, if_pos a]
theorem sh_eq {S Z S' Z' : Nat → Int32} (h : ∀ t, t < 6 → S t = S' t ∧ Z t = Z' t) (t i o j x : Int32) : shO S Z t i o j x = shO S' Z' t i o j x := by
  unfold shO
  by_cases a : ¬ inP t 0 5 ∨ ¬ inP o 0 5
  · rw [if_pos a, if_pos a]
  · obtain ⟨t, ht, rfl⟩ := inP_of (m := 5) (by omega) (Decidable.not_not.mp (fun z => a (Or.inl z)))
    obtain ⟨o, ho, rfl⟩ := inP_of (m := 5) (by omega) (Decidable.not_not.mp (fun z => a (Or.inr z)))
    rw [nI_clamp (show t < 2 ^ 31 by omega), nI_clamp (show o < 2 ^ 31 by omega), (h t (by omega)).1, (h t (by omega)).2, (h o (by omega)).1, (h o (by omega)).2]
theorem q_item {t i : Int32} {v : Int64} : PCi X (d + 24) 109 [(0, .ref 0), (1, .int t), (2, .int i), (3, .long v)] 217 [(0, .ref 122), (1, .int t), (2, .int i), (3, .long v)] := by
  intro n kc I K L r Q h
  have tp := r.2.2.2.2.2.2.2.2.2.1
  have ee := it_eq (fun t ht => ⟨(tp.2 t ht).1, (tp.2 t ht).2.1⟩) t i
  refine w_item (tz_of tp) (fun a e => h _ _ _ _ (fun Q2 h2 => ?_)) (fun tt j m e ht et ez hj hm ei => h _ _ _ _ (fun Q2 h2 => ?_))
  · refine m_item tp.1 (fun b e' => ?_) (fun tt j m e' => ?_)
    · rw [ee, e'] at e; cases e; exact h2 _ _ _ _ _ r
    · rw [ee, e'] at e; cases e
  · refine m_item tp.1 (fun b e' => ?_) (fun tt' j' m' e' ht' et' ez' hj' hm' ei' => ?_)
    · rw [ee, e'] at e; cases e
    have e1 : tt = tt' := (nI_eq (by omega) (by omega)).mp (et.symm.trans et')
    subst e1
    have e2 : m = m' := (nI_eq (by omega) (by omega)).mp (ez.symm.trans ((tp.2 tt ht).2.1.trans ez'))
    subst e2
    have e3 : j = j' := (nI_eq (by omega) (by omega)).mp (ei.symm.trans ei')
    subst e3
    have es : tpS I tt = I 166 tt := (tp.2 tt ht).1
    rw [es]
    refine h2 n kc _ K _ (rel_tp r ⟨tp.1, fun t ht' => ?_⟩ (fun a ha => rfl))
    obtain ⟨t1, t2, t3⟩ := tp.2 t ht'
    refine ⟨t1, t2, fun m' hm' e j' hj'' => ?_⟩
    have t3' : L (111 + 2 * t) j' = L 168 (60 * t + j') := t3 m' hm' e j' hj''
    show pm_up (pm_up L (111 + 2 * tt) _) 168 (pm_up ((pm_up L (111 + 2 * tt) _) 168) (60 * tt + j) _) (111 + 2 * t) j' = pm_up (pm_up L (111 + 2 * tt) _) 168 (pm_up ((pm_up L (111 + 2 * tt) _) 168) (60 * tt + j) _) 168 (60 * t + j')
    unfold pm_up
    rw [if_neg (show ¬ 111 + 2 * t = 168 by omega), if_pos rfl]
    by_cases a : t = tt
    · subst a
      rw [if_pos rfl]
      by_cases b : j' = j
      · rw [if_pos b, if_pos (by omega)]
      · rw [if_neg b, if_neg (by omega), if_neg (show ¬ 168 = 111 + 2 * t by omega)]
        exact t3'
    · rw [if_neg (by omega), if_neg (by omega), if_neg (show ¬ 168 = 111 + 2 * tt by omega)]
      exact t3'
theorem q_shift {t i o j x : Int32} : PCi X (d + 24) 111 [(0, .ref 0), (1, .int t), (2, .int i), (3, .int o), (4, .int j), (5, .int x)] 219 [(0, .ref 122), (1, .int t), (2, .int i), (3, .int o), (4, .int j), (5, .int x)] := by
  intro n kc I K L r Q h
  have tp := r.2.2.2.2.2.2.2.2.2.1
  have ee := sh_eq (fun t ht => ⟨(tp.2 t ht).1, (tp.2 t ht).2.1⟩) t i o j x
  refine w_shift (tz_of tp) (fun a e => h _ _ _ _ (fun Q2 h2 => ?_)) (fun tt oo a b c e ht et ho eo ei ej ex z1 z2 => h _ _ _ _ (fun Q2 h2 => ?_))
  · refine m_shift tp.1 (fun b e' => ?_) (fun tt oo a b c e' => ?_)
    · rw [ee, e'] at e; cases e; exact h2 _ _ _ _ _ r
    · rw [ee, e'] at e; cases e
  · obtain ⟨mt, y1, y2, y3⟩ := z1
    obtain ⟨mo, y4, y5, y6⟩ := z2
    refine m_shift tp.1 (fun b e' => ?_) (fun tt' oo' a' b' c' e' ht' et' ho' eo' ei' ej' ex' z3 z4 L2 k1 k2 => ?_)
    · rw [ee, e'] at e; cases e
    obtain ⟨mt', w1, w2, w3⟩ := z3
    obtain ⟨mo', w4, w5, w6⟩ := z4
    have e1 : tt = tt' := (nI_eq (by omega) (by omega)).mp (et.symm.trans et')
    have e2 : oo = oo' := (nI_eq (by omega) (by omega)).mp (eo.symm.trans eo')
    have e3 : a = a' := (nI_eq (by omega) (by omega)).mp (ei.symm.trans ei')
    have e4 : b = b' := (nI_eq (by omega) (by omega)).mp (ej.symm.trans ej')
    have e5 : c = c' := (nI_eq (by omega) (by omega)).mp (ex.symm.trans ex')
    subst e1
    subst e2
    subst e3
    subst e4
    subst e5
    refine h2 n kc _ K _ (rel_tp r ⟨tp.1, fun t htt => ?_⟩ (fun a ha => rfl))
    obtain ⟨t1, t2, t3⟩ := tp.2 t htt
    refine ⟨t1, t2, fun m' hm' e j' hj'' => ?_⟩
    have t3' : L (111 + 2 * t) j' = L 168 (60 * t + j') := t3 m' hm' e j' hj''
    show L2 (111 + 2 * t) j' = L2 168 (60 * t + j')
    rw [k2 _ (by omega) (by omega), k1]
    have hLo : pm_up L (111 + 2 * oo) (va_cpy (L (111 + 2 * tt)) (L (111 + 2 * oo)) a b c) 168 = L 168 := if_neg (by omega)
    rw [hLo]
    by_cases q1 : t = oo
    · subst q1
      rw [show pm_up L (111 + 2 * t) (va_cpy (L (111 + 2 * tt)) (L (111 + 2 * t)) a b c) (111 + 2 * t) = _ from if_pos rfl]
      unfold va_cpy
      by_cases q2 : b ≤ j' ∧ j' < b + c
      · rw [if_pos q2, if_pos (by omega)]
        obtain ⟨-, s2, s3⟩ := tp.2 tt ht
        have := s3 mt' w3 w1 (a + (j' - b)) (by omega)
        rw [show 60 * tt + a + (60 * t + j' - (60 * t + b)) = 60 * tt + (a + (j' - b)) by omega]
        exact this
      · rw [if_neg q2, if_neg (by omega)]
        exact t3'
    · rw [show pm_up L (111 + 2 * oo) (va_cpy (L (111 + 2 * tt)) (L (111 + 2 * oo)) a b c) (111 + 2 * t) = L (111 + 2 * t) from if_neg (by omega), if_neg (by omega)]
      exact t3'
end TAPE
