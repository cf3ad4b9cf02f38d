/-! SOUNDNESS: what a step of the pure machine wants, the machine's own step gives -/
theorem pm_oi_inv {o : Option Value} {k : Int32 → Prop} (h : pm_oi o k) : ∃ x, o = some (.int x) ∧ k x := by
  unfold pm_oi at h
  split at h
  next x => exact ⟨x, rfl, h⟩
  next => exact h.elim
theorem pm_ol_inv {o : Option Value} {k : Int64 → Prop} (h : pm_ol o k) : ∃ x, o = some (.long x) ∧ k x := by
  unfold pm_ol at h
  split at h
  next x => exact ⟨x, rfl, h⟩
  next => exact h.elim
theorem pm_or_inv {o : Option Value} {k : Nat → Prop} (h : pm_or o k) : ∃ x, o = some (.ref x) ∧ k x := by
  unfold pm_or at h
  split at h
  next x => exact ⟨x, rfl, h⟩
  next => exact h.elim
theorem pm_cxm {X : pm_X} {F : Value} {d mi : Nat} {p : Program} {Rm : Room} {s : State} {m : MethodId} {args : Array Value} {meth : Method} {cd : Code} {A : Nat → Prop} {ad : Nat → Nat} {D : va_G} {CA : Nat → ClassId} {own : Nat} {y : MethodName} {cc : ByteArray} {ml : Nat} {r : Option FieldType} {na : Nat}
    (hcx : pm_cx X F d mi p Rm s m args meth cd A ad D CA) (hm : pm_ms[mi]? = some (own, y, cc, ml, r, na)) :
    cd.code = cc ∧ cd.maxLocals = ml ∧ s.vm.findClass (pm_os own) = some m.cls ∧ meth.sig.returnType = r ∧ (y.name = "<init>" → meth.name = "<init>") := by
  obtain ⟨⟨own', y', cc', ml', r', na', hm', h1, h2, h3, h4, h5⟩, -⟩ := hcx
  rw [hm] at hm'
  cases hm'
  exact ⟨h1, h2, h3, h4, h5⟩
section PMV
variable {X : pm_X} {d mi pc pc' n a b : Nat} {v : Int} {t : List (Int × Nat)} {l l' : pm_l} {st st' : List Value} {c z : Nat} {sh : pm_S} {I : pm_I} {L : pm_L} {R : pm_R} {Q : pm_Q} {own : Nat} {y : MethodName} {cc : ByteArray} {ml : Nat} {r : Option FieldType} {na : Nat}
theorem sd_pure (hm : pm_ms[mi]? = some (own, y, cc, ml, r, na))
    (row : ∀ (p : Program) (l0 : Launch) (e : Env) (Rm : Room) (s : State) (m : MethodId) (args : Array Value) (below : List Frame) (meth : Method) (cd : Code) (F : Value) (H : Heap) (locs : List Loc) (ls : Array Slot) (ad : Nat → Nat) (cells slots : Nat) (Qf : State → Prop), p.tables.exec = Jvm.exec → cd.code = cc → s.vm.findClass (pm_os own) = some m.cls → (∀ w ∈ pm_tb, w.before args s = true) → (F = .null ∨ ∃ t, F = .ref t) → lv_has ls cd.maxLocals (pm_lc F ad l) →
      W p l0 e Rm s m args below meth cd H locs cells slots Qf (F0 m pc' ls (st'.map (pm_cz F ad))) → W p l0 e Rm s m args below meth cd H locs cells slots Qf (F0 m pc ls (st.map (pm_cz F ad))))
    (h : pm_snd X d mi pc' l st' c z sh I L R Q) : pm_snd X d mi pc l st c z sh I L R Q := by
  intro p l0 e Rm s m args below meth cd F A D CA ad0 n0 H locs ls ad Qf hcx hw hx hc hz hl fin
  obtain ⟨g1, g2, g3, g4, g5⟩ := pm_cxm hcx hm
  exact row p l0 e Rm s m args below meth cd F H locs ls ad c z Qf hcx.2.1 g1 g3 hcx.2.2.1 hcx.2.2.2.2.2.2.2.2.2.1 hl (h p l0 e Rm s m args below meth cd F A D CA ad0 n0 H locs ls ad Qf hcx hw hx hc hz hl fin)
/-- a step that stores into the locals -/
theorem sd_store (hm : pm_ms[mi]? = some (own, y, cc, ml, r, na))
    (row : ∀ (p : Program) (l0 : Launch) (e : Env) (Rm : Room) (s : State) (m : MethodId) (args : Array Value) (below : List Frame) (meth : Method) (cd : Code) (F : Value) (H : Heap) (locs : List Loc) (ls : Array Slot) (ad : Nat → Nat) (cells slots : Nat) (Qf : State → Prop), p.tables.exec = Jvm.exec → cd.code = cc → (F = .null ∨ ∃ t, F = .ref t) → lv_has ls cd.maxLocals (pm_lc F ad l) →
      (∀ ls', lv_has ls' cd.maxLocals (pm_lc F ad l') → W p l0 e Rm s m args below meth cd H locs cells slots Qf (F0 m pc' ls' (st'.map (pm_cz F ad)))) → W p l0 e Rm s m args below meth cd H locs cells slots Qf (F0 m pc ls (st.map (pm_cz F ad))))
    (h : pm_snd X d mi pc' l' st' c z sh I L R Q) : pm_snd X d mi pc l st c z sh I L R Q := by
  intro p l0 e Rm s m args below meth cd F A D CA ad0 n0 H locs ls ad Qf hcx hw hx hc hz hl fin
  obtain ⟨g1, g2, g3, g4, g5⟩ := pm_cxm hcx hm
  exact row p l0 e Rm s m args below meth cd F H locs ls ad c z Qf hcx.2.1 g1 hcx.2.2.2.2.2.2.2.2.2.1 hl (fun ls' hl' => h p l0 e Rm s m args below meth cd F A D CA ad0 n0 H locs ls' ad Qf hcx hw hx hc hz hl' fin)
theorem sd_iload_n (hm : pm_ms[mi]? = some (own, y, cc, ml, r, na)) {k : Fin 4} (hd : decode cc pc = .ok (.iload_n k, 1)) (hk : k.val = a) (h : pm_step X (pm_snd X) (pm_snd X) (.iload_n k, 1, a, b, v, t) d mi pc l st c z sh I L R Q) : pm_snd X d mi pc l st c z sh I L R Q := by
  obtain ⟨x, hx0, h⟩ := pm_oi_inv h
  refine sd_pure hm (fun p l0 e Rm s m args below meth cd F H locs ls ad cells slots Qf hx hb ho hts hF hl w => ?_) h
  exact lv_iload_n hx hb hd hk (pm_lc_at hl hx0) w
theorem sd_iload (hm : pm_ms[mi]? = some (own, y, cc, ml, r, na)) {k : Nat} (hd : decode cc pc = .ok (.iload k, 2)) (hk : k = a) (h : pm_step X (pm_snd X) (pm_snd X) (.iload k, 2, a, b, v, t) d mi pc l st c z sh I L R Q) : pm_snd X d mi pc l st c z sh I L R Q := by
  obtain ⟨x, hx0, h⟩ := pm_oi_inv h
  refine sd_pure hm (fun p l0 e Rm s m args below meth cd F H locs ls ad cells slots Qf hx hb ho hts hF hl w => ?_) h
  exact lv_iload hx hb hd (by rw [hk]; exact pm_lc_at hl hx0) w
theorem sd_lload (hm : pm_ms[mi]? = some (own, y, cc, ml, r, na)) {k : Nat} (hd : decode cc pc = .ok (.lload k, 2)) (hk : k = a) (h : pm_step X (pm_snd X) (pm_snd X) (.lload k, 2, a, b, v, t) d mi pc l st c z sh I L R Q) : pm_snd X d mi pc l st c z sh I L R Q := by
  obtain ⟨x, hx0, h⟩ := pm_ol_inv h
  refine sd_pure hm (fun p l0 e Rm s m args below meth cd F H locs ls ad cells slots Qf hx hb ho hts hF hl w => ?_) h
  exact lv_lload hx hb hd (by rw [hk]; exact pm_lc_at hl hx0) w
theorem sd_lload_n (hm : pm_ms[mi]? = some (own, y, cc, ml, r, na)) {k : Fin 4} (hd : decode cc pc = .ok (.lload_n k, 1)) (hk : k.val = a) (h : pm_step X (pm_snd X) (pm_snd X) (.lload_n k, 1, a, b, v, t) d mi pc l st c z sh I L R Q) : pm_snd X d mi pc l st c z sh I L R Q := by
  obtain ⟨x, hx0, h⟩ := pm_ol_inv h
  refine sd_pure hm (fun p l0 e Rm s m args below meth cd F H locs ls ad cells slots Qf hx hb ho hts hF hl w => ?_) h
  exact lv_lload_n hx hb hd hk (pm_lc_at hl hx0) w
theorem sd_aload_n (hm : pm_ms[mi]? = some (own, y, cc, ml, r, na)) {k : Fin 4} (hd : decode cc pc = .ok (.aload_n k, 1)) (hk : k.val = a) (h : pm_step X (pm_snd X) (pm_snd X) (.aload_n k, 1, a, b, v, t) d mi pc l st c z sh I L R Q) : pm_snd X d mi pc l st c z sh I L R Q := by
  obtain ⟨x, hx0, h⟩ := pm_or_inv h
  refine sd_pure hm (fun p l0 e Rm s m args below meth cd F H locs ls ad cells slots Qf hx hb ho hts hF hl w => ?_) h
  have g := pm_lc_at hl hx0
  change W p l0 e Rm s m args below meth cd H locs cells slots Qf (F0 m (pc + 1) ls (pm_cz F ad (.ref x) :: st.map (pm_cz F ad))) at w
  by_cases h3 : x = 1000003
  · have e1 : pm_cz F ad (.ref x) = F := by show (if x = 1000003 then F else .ref (ad x)) = F; rw [if_pos h3]
    rcases hF with hF | ⟨q, hF⟩
    · have e2 : pm_cz F ad (.ref x) = .null := by rw [e1, hF]
      rw [e2] at g w
      exact lv_aload_nN hx hb hd hk g w
    · have e2 : pm_cz F ad (.ref x) = .ref q := by rw [e1, hF]
      rw [e2] at g w
      exact lv_aload_n hx hb hd hk g w
  · have e2 : pm_cz F ad (.ref x) = .ref (ad x) := by show (if x = 1000003 then F else .ref (ad x)) = _; rw [if_neg h3]
    rw [e2] at g w
    exact lv_aload_n hx hb hd hk g w
theorem sd_aload (hm : pm_ms[mi]? = some (own, y, cc, ml, r, na)) {k : Nat} (hd : decode cc pc = .ok (.aload k, 2)) (hk : k = a) (h : pm_step X (pm_snd X) (pm_snd X) (.aload k, 2, a, b, v, t) d mi pc l st c z sh I L R Q) : pm_snd X d mi pc l st c z sh I L R Q := by
  obtain ⟨x, hx0, h⟩ := pm_or_inv h
  refine sd_pure hm (fun p l0 e Rm s m args below meth cd F H locs ls ad cells slots Qf hx hb ho hts hF hl w => ?_) h
  have g := pm_lc_at hl hx0
  subst hk
  change W p l0 e Rm s m args below meth cd H locs cells slots Qf (F0 m (pc + 2) ls (pm_cz F ad (.ref x) :: st.map (pm_cz F ad))) at w
  by_cases h3 : x = 1000003
  · have e1 : pm_cz F ad (.ref x) = F := by show (if x = 1000003 then F else .ref (ad x)) = F; rw [if_pos h3]
    rcases hF with hF | ⟨q, hF⟩
    · have e2 : pm_cz F ad (.ref x) = .null := by rw [e1, hF]
      rw [e2] at g w
      exact lv_aloadN hx hb hd g w
    · have e2 : pm_cz F ad (.ref x) = .ref q := by rw [e1, hF]
      rw [e2] at g w
      exact lv_aload hx hb hd g w
  · have e2 : pm_cz F ad (.ref x) = .ref (ad x) := by show (if x = 1000003 then F else .ref (ad x)) = _; rw [if_neg h3]
    rw [e2] at g w
    exact lv_aload hx hb hd g w
theorem sd_istore_n (hm : pm_ms[mi]? = some (own, y, cc, ml, r, na)) {k : Fin 4} (hd : decode cc pc = .ok (.istore_n k, 1)) (hk : k.val = a) (ha : a < ml) (h : pm_step X (pm_snd X) (pm_snd X) (.istore_n k, 1, a, b, v, t) d mi pc l st c z sh I L R Q) : pm_snd X d mi pc l st c z sh I L R Q := by
  simp only [pm_step] at h
  split at h
  next x rest =>
    intro p l0 e Rm s m args below meth cd F A D CA ad0 n0 H locs ls ad Qf hcx hw hx hc hz hl fin
    obtain ⟨g1, g2, g3, g4, g5⟩ := pm_cxm hcx hm
    have hF := hcx.2.2.2.2.2.2.2.2.2.1
    exact lv_istore_n (lv' := pm_lc F ad ((a, .int x) :: pm_rm l a)) hcx.2.1 g1 hd hk hl (by rw [g2]; exact ha) (by rw [← pm_lc_rm hF ad a l]; rfl) (fun ls' hl' => h p l0 e Rm s m args below meth cd F A D CA ad0 n0 H locs ls' ad Qf hcx hw hx hc hz (pm_lc_ins hl') fin)
  next => exact h.elim
theorem sd_istore (hm : pm_ms[mi]? = some (own, y, cc, ml, r, na)) {k : Nat} (hd : decode cc pc = .ok (.istore k, 2)) (hk : k = a) (ha : a < ml) (h : pm_step X (pm_snd X) (pm_snd X) (.istore k, 2, a, b, v, t) d mi pc l st c z sh I L R Q) : pm_snd X d mi pc l st c z sh I L R Q := by
  simp only [pm_step] at h
  split at h
  next x rest =>
    intro p l0 e Rm s m args below meth cd F A D CA ad0 n0 H locs ls ad Qf hcx hw hx hc hz hl fin
    obtain ⟨g1, g2, g3, g4, g5⟩ := pm_cxm hcx hm
    have hF := hcx.2.2.2.2.2.2.2.2.2.1
    subst hk
    exact lv_istore (lv' := pm_lc F ad ((k, .int x) :: pm_rm l k)) hcx.2.1 g1 hd hl (by rw [g2]; exact ha) (by rw [← pm_lc_rm hF ad k l]; rfl) (fun ls' hl' => h p l0 e Rm s m args below meth cd F A D CA ad0 n0 H locs ls' ad Qf hcx hw hx hc hz (pm_lc_ins hl') fin)
  next => exact h.elim
theorem sd_astore_n (hm : pm_ms[mi]? = some (own, y, cc, ml, r, na)) {k : Fin 4} (hd : decode cc pc = .ok (.astore_n k, 1)) (hk : k.val = a) (ha : a < ml) (h : pm_step X (pm_snd X) (pm_snd X) (.astore_n k, 1, a, b, v, t) d mi pc l st c z sh I L R Q) : pm_snd X d mi pc l st c z sh I L R Q := by
  simp only [pm_step] at h
  split at h
  next x rest =>
    intro p l0 e Rm s m args below meth cd F A D CA ad0 n0 H locs ls ad Qf hcx hw hx hc hz hl fin
    obtain ⟨g1, g2, g3, g4, g5⟩ := pm_cxm hcx hm
    have hF := hcx.2.2.2.2.2.2.2.2.2.1
    have kk := fun ls' hl' => h p l0 e Rm s m args below meth cd F A D CA ad0 n0 H locs ls' ad Qf hcx hw hx hc hz (pm_lc_ins hl') fin
    show W p l0 e Rm s m args below meth cd H locs c z Qf (F0 m pc ls (pm_cz F ad (.ref x) :: rest.map (pm_cz F ad)))
    by_cases h3 : x = 1000003
    · have e1 : pm_cz F ad (.ref x) = F := by show (if x = 1000003 then F else .ref (ad x)) = F; rw [if_pos h3]
      rcases id hF with hF' | ⟨q, hF'⟩
      · have e2 : pm_cz F ad (.ref x) = .null := by rw [e1, hF']
        rw [e2]
        exact lv_astore_nN hcx.2.1 g1 hd hk hl (by rw [g2]; exact ha) (lv' := pm_lc F ad ((a, .ref x) :: pm_rm l a)) (by rw [← pm_lc_rm hF ad a l, ← e2]; rfl) kk
      · have e2 : pm_cz F ad (.ref x) = .ref q := by rw [e1, hF']
        rw [e2]
        exact lv_astore_n hcx.2.1 g1 hd hk hl (by rw [g2]; exact ha) (lv' := pm_lc F ad ((a, .ref x) :: pm_rm l a)) (by rw [← pm_lc_rm hF ad a l, ← e2]; rfl) kk
    · have e2 : pm_cz F ad (.ref x) = .ref (ad x) := by show (if x = 1000003 then F else .ref (ad x)) = _; rw [if_neg h3]
      rw [e2]
      exact lv_astore_n hcx.2.1 g1 hd hk hl (by rw [g2]; exact ha) (lv' := pm_lc F ad ((a, .ref x) :: pm_rm l a)) (by rw [← pm_lc_rm hF ad a l, ← e2]; rfl) kk
  next => exact h.elim
theorem sd_astore (hm : pm_ms[mi]? = some (own, y, cc, ml, r, na)) {k : Nat} (hd : decode cc pc = .ok (.astore k, 2)) (hk : k = a) (ha : a < ml) (h : pm_step X (pm_snd X) (pm_snd X) (.astore k, 2, a, b, v, t) d mi pc l st c z sh I L R Q) : pm_snd X d mi pc l st c z sh I L R Q := by
  simp only [pm_step] at h
  split at h
  next x rest =>
    intro p l0 e Rm s m args below meth cd F A D CA ad0 n0 H locs ls ad Qf hcx hw hx hc hz hl fin
    obtain ⟨g1, g2, g3, g4, g5⟩ := pm_cxm hcx hm
    have hF := hcx.2.2.2.2.2.2.2.2.2.1
    have kk := fun ls' hl' => h p l0 e Rm s m args below meth cd F A D CA ad0 n0 H locs ls' ad Qf hcx hw hx hc hz (pm_lc_ins hl') fin
    subst hk
    show W p l0 e Rm s m args below meth cd H locs c z Qf (F0 m pc ls (pm_cz F ad (.ref x) :: rest.map (pm_cz F ad)))
    by_cases h3 : x = 1000003
    · have e1 : pm_cz F ad (.ref x) = F := by show (if x = 1000003 then F else .ref (ad x)) = F; rw [if_pos h3]
      rcases id hF with hF' | ⟨q, hF'⟩
      · have e2 : pm_cz F ad (.ref x) = .null := by rw [e1, hF']
        rw [e2]
        exact lv_astoreN hcx.2.1 g1 hd hl (by rw [g2]; exact ha) (lv' := pm_lc F ad ((k, .ref x) :: pm_rm l k)) (by rw [← pm_lc_rm hF ad k l, ← e2]; rfl) kk
      · have e2 : pm_cz F ad (.ref x) = .ref q := by rw [e1, hF']
        rw [e2]
        exact lv_astore hcx.2.1 g1 hd hl (by rw [g2]; exact ha) (lv' := pm_lc F ad ((k, .ref x) :: pm_rm l k)) (by rw [← pm_lc_rm hF ad k l, ← e2]; rfl) kk
    · have e2 : pm_cz F ad (.ref x) = .ref (ad x) := by show (if x = 1000003 then F else .ref (ad x)) = _; rw [if_neg h3]
      rw [e2]
      exact lv_astore hcx.2.1 g1 hd hl (by rw [g2]; exact ha) (lv' := pm_lc F ad ((k, .ref x) :: pm_rm l k)) (by rw [← pm_lc_rm hF ad k l, ← e2]; rfl) kk
  next => exact h.elim
theorem sd_iconst (hm : pm_ms[mi]? = some (own, y, cc, ml, r, na)) {k : Int} (hd : decode cc pc = .ok (.iconst k, 1)) (hk : Int32.ofInt k = Int32.ofInt v) (h : pm_step X (pm_snd X) (pm_snd X) (.iconst k, 1, a, b, v, t) d mi pc l st c z sh I L R Q) : pm_snd X d mi pc l st c z sh I L R Q := by
  refine sd_pure hm (fun p l0 e Rm s m args below meth cd F H locs ls ad cells slots Qf hx hb ho hts hF hl w => ?_) h
  exact lv_iconst hx hb hd hk w
theorem sd_bipush (hm : pm_ms[mi]? = some (own, y, cc, ml, r, na)) {k : Int} (hd : decode cc pc = .ok (.bipush k, 2)) (hk : (Int8.ofInt k).toInt32 = Int32.ofInt v) (h : pm_step X (pm_snd X) (pm_snd X) (.bipush k, 2, a, b, v, t) d mi pc l st c z sh I L R Q) : pm_snd X d mi pc l st c z sh I L R Q := by
  refine sd_pure hm (fun p l0 e Rm s m args below meth cd F H locs ls ad cells slots Qf hx hb ho hts hF hl w => ?_) h
  exact lv_bipush hx hb hd hk w
theorem sd_sipush (hm : pm_ms[mi]? = some (own, y, cc, ml, r, na)) {k : Int} (hd : decode cc pc = .ok (.sipush k, 3)) (hk : (Int16.ofInt k).toInt32 = Int32.ofInt v) (h : pm_step X (pm_snd X) (pm_snd X) (.sipush k, 3, a, b, v, t) d mi pc l st c z sh I L R Q) : pm_snd X d mi pc l st c z sh I L R Q := by
  refine sd_pure hm (fun p l0 e Rm s m args below meth cd F H locs ls ad cells slots Qf hx hb ho hts hF hl w => ?_) h
  exact lv_sipush hx hb hd hk w
theorem sd_lconst (hm : pm_ms[mi]? = some (own, y, cc, ml, r, na)) {k : Fin 2} (hd : decode cc pc = .ok (.lconst k, 1)) (hk : Int64.ofNat k.val = Int64.ofInt v) (h : pm_step X (pm_snd X) (pm_snd X) (.lconst k, 1, a, b, v, t) d mi pc l st c z sh I L R Q) : pm_snd X d mi pc l st c z sh I L R Q := by
  refine sd_pure hm (fun p l0 e Rm s m args below meth cd F H locs ls ad cells slots Qf hx hb ho hts hF hl w => ?_) h
  exact lv_lconst hx hb hd hk w
theorem sd_iadd (hm : pm_ms[mi]? = some (own, y, cc, ml, r, na)) (hd : decode cc pc = .ok (.iadd, 1)) (h : pm_step X (pm_snd X) (pm_snd X) (.iadd, 1, a, b, v, t) d mi pc l st c z sh I L R Q) : pm_snd X d mi pc l st c z sh I L R Q := by
  simp only [pm_step] at h
  split at h
  next y2 x rest =>
    refine sd_pure hm (fun p l0 e Rm s m args below meth cd F H locs ls ad cells slots Qf hx hb ho hts hF hl w => ?_) h
    exact lv_iadd hx hb hd w
  next => exact h.elim
theorem sd_isub (hm : pm_ms[mi]? = some (own, y, cc, ml, r, na)) (hd : decode cc pc = .ok (.isub, 1)) (h : pm_step X (pm_snd X) (pm_snd X) (.isub, 1, a, b, v, t) d mi pc l st c z sh I L R Q) : pm_snd X d mi pc l st c z sh I L R Q := by
  simp only [pm_step] at h
  split at h
  next y2 x rest =>
    refine sd_pure hm (fun p l0 e Rm s m args below meth cd F H locs ls ad cells slots Qf hx hb ho hts hF hl w => ?_) h
    exact lv_isub hx hb hd w
  next => exact h.elim
theorem sd_imul (hm : pm_ms[mi]? = some (own, y, cc, ml, r, na)) (hd : decode cc pc = .ok (.imul, 1)) (h : pm_step X (pm_snd X) (pm_snd X) (.imul, 1, a, b, v, t) d mi pc l st c z sh I L R Q) : pm_snd X d mi pc l st c z sh I L R Q := by
  simp only [pm_step] at h
  split at h
  next y2 x rest =>
    refine sd_pure hm (fun p l0 e Rm s m args below meth cd F H locs ls ad cells slots Qf hx hb ho hts hF hl w => ?_) h
    exact lv_imul hx hb hd w
  next => exact h.elim
theorem sd_iand (hm : pm_ms[mi]? = some (own, y, cc, ml, r, na)) (hd : decode cc pc = .ok (.iand, 1)) (h : pm_step X (pm_snd X) (pm_snd X) (.iand, 1, a, b, v, t) d mi pc l st c z sh I L R Q) : pm_snd X d mi pc l st c z sh I L R Q := by
  simp only [pm_step] at h
  split at h
  next y2 x rest =>
    refine sd_pure hm (fun p l0 e Rm s m args below meth cd F H locs ls ad cells slots Qf hx hb ho hts hF hl w => ?_) h
    exact lv_iand hx hb hd w
  next => exact h.elim
theorem sd_ior (hm : pm_ms[mi]? = some (own, y, cc, ml, r, na)) (hd : decode cc pc = .ok (.ior, 1)) (h : pm_step X (pm_snd X) (pm_snd X) (.ior, 1, a, b, v, t) d mi pc l st c z sh I L R Q) : pm_snd X d mi pc l st c z sh I L R Q := by
  simp only [pm_step] at h
  split at h
  next y2 x rest =>
    refine sd_pure hm (fun p l0 e Rm s m args below meth cd F H locs ls ad cells slots Qf hx hb ho hts hF hl w => ?_) h
    exact lv_ior hx hb hd w
  next => exact h.elim
theorem sd_ixor (hm : pm_ms[mi]? = some (own, y, cc, ml, r, na)) (hd : decode cc pc = .ok (.ixor, 1)) (h : pm_step X (pm_snd X) (pm_snd X) (.ixor, 1, a, b, v, t) d mi pc l st c z sh I L R Q) : pm_snd X d mi pc l st c z sh I L R Q := by
  simp only [pm_step] at h
  split at h
  next y2 x rest =>
    refine sd_pure hm (fun p l0 e Rm s m args below meth cd F H locs ls ad cells slots Qf hx hb ho hts hF hl w => ?_) h
    exact lv_ixor hx hb hd w
  next => exact h.elim
theorem sd_ishl (hm : pm_ms[mi]? = some (own, y, cc, ml, r, na)) (hd : decode cc pc = .ok (.ishl, 1)) (h : pm_step X (pm_snd X) (pm_snd X) (.ishl, 1, a, b, v, t) d mi pc l st c z sh I L R Q) : pm_snd X d mi pc l st c z sh I L R Q := by
  simp only [pm_step] at h
  split at h
  next y2 x rest =>
    refine sd_pure hm (fun p l0 e Rm s m args below meth cd F H locs ls ad cells slots Qf hx hb ho hts hF hl w => ?_) h
    exact lv_ishl hx hb hd w
  next => exact h.elim
theorem sd_ishr (hm : pm_ms[mi]? = some (own, y, cc, ml, r, na)) (hd : decode cc pc = .ok (.ishr, 1)) (h : pm_step X (pm_snd X) (pm_snd X) (.ishr, 1, a, b, v, t) d mi pc l st c z sh I L R Q) : pm_snd X d mi pc l st c z sh I L R Q := by
  simp only [pm_step] at h
  split at h
  next y2 x rest =>
    refine sd_pure hm (fun p l0 e Rm s m args below meth cd F H locs ls ad cells slots Qf hx hb ho hts hF hl w => ?_) h
    exact lv_ishr hx hb hd w
  next => exact h.elim
theorem sd_land (hm : pm_ms[mi]? = some (own, y, cc, ml, r, na)) (hd : decode cc pc = .ok (.land, 1)) (h : pm_step X (pm_snd X) (pm_snd X) (.land, 1, a, b, v, t) d mi pc l st c z sh I L R Q) : pm_snd X d mi pc l st c z sh I L R Q := by
  simp only [pm_step] at h
  split at h
  next y2 x rest =>
    refine sd_pure hm (fun p l0 e Rm s m args below meth cd F H locs ls ad cells slots Qf hx hb ho hts hF hl w => ?_) h
    exact lv_land hx hb hd w
  next => exact h.elim
theorem sd_lor (hm : pm_ms[mi]? = some (own, y, cc, ml, r, na)) (hd : decode cc pc = .ok (.lor, 1)) (h : pm_step X (pm_snd X) (pm_snd X) (.lor, 1, a, b, v, t) d mi pc l st c z sh I L R Q) : pm_snd X d mi pc l st c z sh I L R Q := by
  simp only [pm_step] at h
  split at h
  next y2 x rest =>
    refine sd_pure hm (fun p l0 e Rm s m args below meth cd F H locs ls ad cells slots Qf hx hb ho hts hF hl w => ?_) h
    exact lv_lor hx hb hd w
  next => exact h.elim
theorem sd_idiv (hm : pm_ms[mi]? = some (own, y, cc, ml, r, na)) (hd : decode cc pc = .ok (.idiv, 1)) (h : pm_step X (pm_snd X) (pm_snd X) (.idiv, 1, a, b, v, t) d mi pc l st c z sh I L R Q) : pm_snd X d mi pc l st c z sh I L R Q := by
  simp only [pm_step] at h
  split at h
  next y2 x rest =>
    obtain ⟨hne, h⟩ := h
    refine sd_pure hm (fun p l0 e Rm s m args below meth cd F H locs ls ad cells slots Qf hx hb ho hts hF hl w => ?_) h
    exact lv_idiv hx hb hd hne w
  next => exact h.elim
theorem sd_irem (hm : pm_ms[mi]? = some (own, y, cc, ml, r, na)) (hd : decode cc pc = .ok (.irem, 1)) (h : pm_step X (pm_snd X) (pm_snd X) (.irem, 1, a, b, v, t) d mi pc l st c z sh I L R Q) : pm_snd X d mi pc l st c z sh I L R Q := by
  simp only [pm_step] at h
  split at h
  next y2 x rest =>
    obtain ⟨hne, h⟩ := h
    refine sd_pure hm (fun p l0 e Rm s m args below meth cd F H locs ls ad cells slots Qf hx hb ho hts hF hl w => ?_) h
    exact lv_irem hx hb hd hne (by rw [irem_eq_mod]; exact w)
  next => exact h.elim
theorem sd_ineg (hm : pm_ms[mi]? = some (own, y, cc, ml, r, na)) (hd : decode cc pc = .ok (.ineg, 1)) (h : pm_step X (pm_snd X) (pm_snd X) (.ineg, 1, a, b, v, t) d mi pc l st c z sh I L R Q) : pm_snd X d mi pc l st c z sh I L R Q := by
  simp only [pm_step] at h
  split at h
  next x rest =>
    refine sd_pure hm (fun p l0 e Rm s m args below meth cd F H locs ls ad cells slots Qf hx hb ho hts hF hl w => ?_) h
    exact lv_ineg hx hb hd w
  next => exact h.elim
theorem sd_lshl (hm : pm_ms[mi]? = some (own, y, cc, ml, r, na)) (hd : decode cc pc = .ok (.lshl, 1)) (h : pm_step X (pm_snd X) (pm_snd X) (.lshl, 1, a, b, v, t) d mi pc l st c z sh I L R Q) : pm_snd X d mi pc l st c z sh I L R Q := by
  simp only [pm_step] at h
  split at h
  next y2 x rest =>
    refine sd_pure hm (fun p l0 e Rm s m args below meth cd F H locs ls ad cells slots Qf hx hb ho hts hF hl w => ?_) h
    exact lv_lshl hx hb hd rfl w
  next => exact h.elim
theorem sd_i2l (hm : pm_ms[mi]? = some (own, y, cc, ml, r, na)) (hd : decode cc pc = .ok (.i2l, 1)) (h : pm_step X (pm_snd X) (pm_snd X) (.i2l, 1, a, b, v, t) d mi pc l st c z sh I L R Q) : pm_snd X d mi pc l st c z sh I L R Q := by
  simp only [pm_step] at h
  split at h
  next x rest =>
    refine sd_pure hm (fun p l0 e Rm s m args below meth cd F H locs ls ad cells slots Qf hx hb ho hts hF hl w => ?_) h
    exact lv_i2l hx hb hd rfl w
  next => exact h.elim
theorem sd_l2i (hm : pm_ms[mi]? = some (own, y, cc, ml, r, na)) (hd : decode cc pc = .ok (.l2i, 1)) (h : pm_step X (pm_snd X) (pm_snd X) (.l2i, 1, a, b, v, t) d mi pc l st c z sh I L R Q) : pm_snd X d mi pc l st c z sh I L R Q := by
  simp only [pm_step] at h
  split at h
  next x rest =>
    refine sd_pure hm (fun p l0 e Rm s m args below meth cd F H locs ls ad cells slots Qf hx hb ho hts hF hl w => ?_) h
    exact lv_l2i hx hb hd rfl w
  next => exact h.elim
theorem sd_i2b (hm : pm_ms[mi]? = some (own, y, cc, ml, r, na)) (hd : decode cc pc = .ok (.i2b, 1)) (h : pm_step X (pm_snd X) (pm_snd X) (.i2b, 1, a, b, v, t) d mi pc l st c z sh I L R Q) : pm_snd X d mi pc l st c z sh I L R Q := by
  simp only [pm_step] at h
  split at h
  next x rest =>
    refine sd_pure hm (fun p l0 e Rm s m args below meth cd F H locs ls ad cells slots Qf hx hb ho hts hF hl w => ?_) h
    exact lv_i2b hx hb hd rfl w
  next => exact h.elim
theorem sd_i2s (hm : pm_ms[mi]? = some (own, y, cc, ml, r, na)) (hd : decode cc pc = .ok (.i2s, 1)) (h : pm_step X (pm_snd X) (pm_snd X) (.i2s, 1, a, b, v, t) d mi pc l st c z sh I L R Q) : pm_snd X d mi pc l st c z sh I L R Q := by
  simp only [pm_step] at h
  split at h
  next x rest =>
    refine sd_pure hm (fun p l0 e Rm s m args below meth cd F H locs ls ad cells slots Qf hx hb ho hts hF hl w => ?_) h
    exact lv_i2s hx hb hd rfl w
  next => exact h.elim
theorem sd_i2c (hm : pm_ms[mi]? = some (own, y, cc, ml, r, na)) (hd : decode cc pc = .ok (.i2c, 1)) (h : pm_step X (pm_snd X) (pm_snd X) (.i2c, 1, a, b, v, t) d mi pc l st c z sh I L R Q) : pm_snd X d mi pc l st c z sh I L R Q := by
  simp only [pm_step] at h
  split at h
  next x rest =>
    refine sd_pure hm (fun p l0 e Rm s m args below meth cd F H locs ls ad cells slots Qf hx hb ho hts hF hl w => ?_) h
    exact lv_i2c hx hb hd rfl w
  next => exact h.elim
theorem sd_lcmp (hm : pm_ms[mi]? = some (own, y, cc, ml, r, na)) (hd : decode cc pc = .ok (.lcmp, 1)) (h : pm_step X (pm_snd X) (pm_snd X) (.lcmp, 1, a, b, v, t) d mi pc l st c z sh I L R Q) : pm_snd X d mi pc l st c z sh I L R Q := by
  simp only [pm_step] at h
  split at h
  next y2 x rest =>
    refine sd_pure hm (fun p l0 e Rm s m args below meth cd F H locs ls ad cells slots Qf hx hb ho hts hF hl w => ?_) h
    exact W.lcmp hx hb hd w
  next => exact h.elim
theorem sd_dup (hm : pm_ms[mi]? = some (own, y, cc, ml, r, na)) (hd : decode cc pc = .ok (.dup, 1)) (h : pm_step X (pm_snd X) (pm_snd X) (.dup, 1, a, b, v, t) d mi pc l st c z sh I L R Q) : pm_snd X d mi pc l st c z sh I L R Q := by
  simp only [pm_step] at h
  split at h
  next x rest =>
    obtain ⟨hc0, h⟩ := h
    refine sd_pure hm (fun p l0 e Rm s m args below meth cd F H locs ls ad cells slots Qf hx hb ho hts hF hl w => ?_) h
    exact lv_dup hx hb hd (by rw [pm_cz_cat hF]; exact hc0) w
  next => exact h.elim
theorem sd_dup2 (hm : pm_ms[mi]? = some (own, y, cc, ml, r, na)) (hd : decode cc pc = .ok (.dup2, 1)) (h : pm_step X (pm_snd X) (pm_snd X) (.dup2, 1, a, b, v, t) d mi pc l st c z sh I L R Q) : pm_snd X d mi pc l st c z sh I L R Q := by
  simp only [pm_step] at h
  split at h
  next x y2 rest =>
    obtain ⟨hc0, hc1, h⟩ := h
    refine sd_pure hm (fun p l0 e Rm s m args below meth cd F H locs ls ad cells slots Qf hx hb ho hts hF hl w => ?_) h
    exact lv_dup2_11 hx hb hd (by rw [pm_cz_cat hF]; exact hc0) (by rw [pm_cz_cat hF]; exact hc1) w
  next => exact h.elim
theorem sd_pop (hm : pm_ms[mi]? = some (own, y, cc, ml, r, na)) (hd : decode cc pc = .ok (.pop, 1)) (h : pm_step X (pm_snd X) (pm_snd X) (.pop, 1, a, b, v, t) d mi pc l st c z sh I L R Q) : pm_snd X d mi pc l st c z sh I L R Q := by
  simp only [pm_step] at h
  split at h
  next x rest =>
    obtain ⟨hc0, h⟩ := h
    refine sd_pure hm (fun p l0 e Rm s m args below meth cd F H locs ls ad cells slots Qf hx hb ho hts hF hl w => ?_) h
    exact lv_pop hx hb hd (by rw [pm_cz_cat hF]; exact hc0) w
  next => exact h.elim
theorem sd_goto (hm : pm_ms[mi]? = some (own, y, cc, ml, r, na)) {k : Int} (hd : decode cc pc = .ok (.goto k, 3)) (hk : (pc : Int) + k = (a : Int)) (h : pm_step X (pm_snd X) (pm_snd X) (.goto k, 3, a, b, v, t) d mi pc l st c z sh I L R Q) : pm_snd X d mi pc l st c z sh I L R Q := by
  refine sd_pure hm (fun p l0 e Rm s m args below meth cd F H locs ls ad cells slots Qf hx hb ho hts hF hl w => ?_) h
  exact lv_goto hx hb hd hk w
theorem sd_iinc (hm : pm_ms[mi]? = some (own, y, cc, ml, r, na)) {k : Nat} {w0 : Int} (hd : decode cc pc = .ok (.iinc k w0, 3)) (hk : k = a) (hv : w0 = v) (h : pm_step X (pm_snd X) (pm_snd X) (.iinc k w0, 3, a, b, v, t) d mi pc l st c z sh I L R Q) : pm_snd X d mi pc l st c z sh I L R Q := by
  obtain ⟨x, hx0, h⟩ := pm_oi_inv h
  intro p l0 e Rm s m args below meth cd F A D CA ad0 n0 H locs ls ad Qf hcx hw hx hc hz hl fin
  obtain ⟨g1, g2, g3, g4, g5⟩ := pm_cxm hcx hm
  have hF := hcx.2.2.2.2.2.2.2.2.2.1
  subst hk hv
  have hmem : (k, Value.int x) ∈ pm_lc F ad l := List.mem_map.mpr ⟨(k, .int x), pm_lk_mem hx0, rfl⟩
  obtain ⟨j, hj⟩ := List.getElem?_of_mem hmem
  have hlt : k < cd.maxLocals := by
    have g := pm_lc_at hl hx0
    rw [← hl.1]
    exact lv_lt g
  exact lv_iinc (lv' := pm_lc F ad ((k, .int (x + Int32.ofInt w0)) :: pm_rm l k)) hcx.2.1 g1 hd hl hj rfl hlt (by rw [← pm_lc_rm hF ad k l]; rfl) (fun ls' hl' => h p l0 e Rm s m args below meth cd F A D CA ad0 n0 H locs ls' ad Qf hcx hw hx hc hz (pm_lc_ins hl') fin)
theorem sd_ifCond (hm : pm_ms[mi]? = some (own, y, cc, ml, r, na)) {k : Int} {cd0 : Jvm.ClassFile.Cond} (hd : decode cc pc = .ok (.ifCond cd0 k, 3)) (hk : (pc : Int) + k = (a : Int)) (h : pm_step X (pm_snd X) (pm_snd X) (.ifCond cd0 k, 3, a, b, v, t) d mi pc l st c z sh I L R Q) : pm_snd X d mi pc l st c z sh I L R Q := by
  simp only [pm_step] at h
  split at h
  next x rest =>
    intro p l0 e Rm s m args below meth cd F A D CA ad0 n0 H locs ls ad Qf hcx hw hx hc hz hl fin
    obtain ⟨g1, g2, g3, g4, g5⟩ := pm_cxm hcx hm
    have kt := fun q => h.1 q p l0 e Rm s m args below meth cd F A D CA ad0 n0 H locs ls ad Qf hcx hw hx hc hz hl fin
    have kf := fun q => h.2 q p l0 e Rm s m args below meth cd F A D CA ad0 n0 H locs ls ad Qf hcx hw hx hc hz hl fin
    cases cd0 with
    | eq => exact lv_if_eq hcx.2.1 g1 hd hk kt kf
    | ne => exact lv_if_ne hcx.2.1 g1 hd hk kt (fun q => kf (fun w => w q))
    | lt => exact lv_if_lt hcx.2.1 g1 hd hk kt kf
    | ge => exact lv_if_ge hcx.2.1 g1 hd hk kt kf
    | gt => exact lv_if_gt hcx.2.1 g1 hd hk kt kf
    | le => exact lv_if_le hcx.2.1 g1 hd hk kt kf
  next => exact h.elim
theorem sd_if_icmp (hm : pm_ms[mi]? = some (own, y, cc, ml, r, na)) {k : Int} {cd0 : Jvm.ClassFile.Cond} (hd : decode cc pc = .ok (.if_icmp cd0 k, 3)) (hk : (pc : Int) + k = (a : Int)) (h : pm_step X (pm_snd X) (pm_snd X) (.if_icmp cd0 k, 3, a, b, v, t) d mi pc l st c z sh I L R Q) : pm_snd X d mi pc l st c z sh I L R Q := by
  simp only [pm_step] at h
  split at h
  next y2 x rest =>
    intro p l0 e Rm s m args below meth cd F A D CA ad0 n0 H locs ls ad Qf hcx hw hx hc hz hl fin
    obtain ⟨g1, g2, g3, g4, g5⟩ := pm_cxm hcx hm
    have kt := fun q => h.1 q p l0 e Rm s m args below meth cd F A D CA ad0 n0 H locs ls ad Qf hcx hw hx hc hz hl fin
    have kf := fun q => h.2 q p l0 e Rm s m args below meth cd F A D CA ad0 n0 H locs ls ad Qf hcx hw hx hc hz hl fin
    cases cd0 with
    | eq => exact lv_icmp_eq hcx.2.1 g1 hd hk kt kf
    | ne => exact lv_icmp_ne hcx.2.1 g1 hd hk kt (fun q => kf (fun w => w q))
    | lt => exact lv_icmp_lt hcx.2.1 g1 hd hk kt kf
    | ge => exact lv_icmp_ge hcx.2.1 g1 hd hk kt kf
    | gt => exact lv_icmp_gt hcx.2.1 g1 hd hk kt kf
    | le => exact lv_icmp_le hcx.2.1 g1 hd hk kt kf
  next => exact h.elim
end PMV
