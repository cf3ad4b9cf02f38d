/-! BOTH SIDES: what changes players -/
section UPD
variable {X : pm_X} {d n kc : Nat} {I I' : pm_I} {K K' : Nat → Nat} {L : pm_L}
theorem tw_q (h : ∀ a, 37 ≤ a → a ≤ 43 → I' a = I a) : VQ (tw I' 37) (tw I 37) := ⟨fun j _ => by show I' 37 j = _; rw [h 37 (by omega) (by omega)], fun f j _ hf _ => by show I' (37 + f) j = _; rw [h (37 + f) (by omega) (by omega)], fun j _ => by show I' 43 j = _; rw [h 43 (by omega) (by omega)]⟩
theorem mw_q (h : ∀ a, 122 ≤ a → a ≤ 128 → I' a = I a) : VQ (mw I') (mw I) := ve_vq (mw_cg (fun a h' => h a (by omega) (by omega)))
theorem stv_o {w : Vw} {f i g j : Nat} {x : Int32} (h : ¬ (g = f ∧ j = i)) : stV w f i x g j = w g j := by
  unfold stV pm_up
  by_cases a : g = f
  · subst a
    rw [if_pos rfl, if_neg (fun z => h ⟨rfl, z⟩)]
  · rw [if_neg a]
theorem stv_i {w : Vw} {f i : Nat} {x : Int32} : stV w f i x f i = x := by
  unfold stV pm_up
  rw [if_pos rfl, if_pos rfl]
theorem tw_s {f i : Nat} {x : Int32} : tw (pm_up I (37 + f) (pm_up (I (37 + f)) i x)) 37 = stV (tw I 37) f i x := by
  funext g j
  by_cases a : g = f ∧ j = i
  · obtain ⟨rfl, rfl⟩ := a
    rw [stv_i]
    show pm_up I (37 + g) _ (37 + g) j = x
    unfold pm_up
    rw [if_pos rfl, if_pos rfl]
  · rw [stv_o a]
    show pm_up I (37 + f) _ (37 + g) j = I (37 + g) j
    unfold pm_up
    by_cases b : g = f
    · subst b
      rw [if_pos rfl, if_neg (fun z => a ⟨rfl, z⟩)]
    · rw [if_neg (by omega)]
theorem mw_s {f i : Nat} {x : Int32} : mw (pm_up I (123 + f) (pm_up (I (123 + f)) i x)) = stV (mw I) (f + 1) i x := by
  funext g j
  cases g with
  | zero =>
    rw [stv_o (by omega)]
    unfold mw pm_up
    simp only [if_neg (show ¬ 122 = 123 + f by omega)]
  | succ g =>
    show pm_up I (123 + f) _ (123 + g) j = _
    by_cases a : g = f ∧ j = i
    · obtain ⟨rfl, rfl⟩ := a
      rw [stv_i]
      unfold pm_up
      rw [if_pos rfl, if_pos rfl]
    · rw [stv_o (by omega)]
      show _ = I (123 + g) j
      unfold pm_up
      by_cases b : g = f
      · subst b
        rw [if_pos rfl, if_neg (fun z => a ⟨rfl, z⟩)]
      · rw [if_neg (by omega)]
theorem rg_row {B i : Nat} {x : Int32} {v : Vw} (g : RG n B v) (hx : ∃ c, c ≤ 9 ∧ x = nI c) : RG n B (stV v 6 i x) := by
  obtain ⟨g1, g2, g3, g4, g5⟩ := g
  refine ⟨g1, by rw [stv_o (by omega)]; exact g2, by rw [stv_o (by omega)]; exact g3, fun k hk => ?_, fun j hj => ?_⟩
  · rw [stv_o (by omega), stv_o (by omega), stv_o (by omega), stv_o (by omega), stv_o (by omega)]; exact g4 k hk
  · by_cases a : j = i
    · subst a; rw [stv_i]; exact hx
    · rw [stv_o (by omega)]; exact g5 j hj
theorem plr_set {w v w' v' : Vw} {f i : Nat} {x : Int32} (p : PLR n w v) (hw : VQ w' (stV w f i x)) (hv : VQ v' (stV v f i x)) (hx : (f = 0 ∧ i = 7 ∧ ∃ m, m < 2 ^ n ∧ x = nI m) ∨ (f = 3 ∧ ∃ c, c ≤ 19 ∧ x = nI c) ∨ (f = 4 ∧ ∃ c, c ≤ 99 ∧ x = nI c) ∨ (f = 5 ∧ ∃ c, 1 ≤ c ∧ c ≤ 200 ∧ x = nI c) ∨ (f = 6 ∧ i < 4 * n ∧ ∃ c, c ≤ 9 ∧ x = nI c)) : PLR n w' v' := by
  obtain ⟨p1, p2, p3, p4, m, p5, p6⟩ := p
  refine ⟨(hw.1 0 (by omega)).trans ((stv_o (by omega)).trans p1), ?_, vq_tr hw (vq_tr (stv_vq p3 _ _ _) (vq_sy hv)), fun j h1 h2 => (hv.2.2 j h2).trans ((stv_o (by omega)).trans (p4 j h1 h2)), ?_⟩
  · refine rg_vq hv ?_
    rcases hx with z | z | z | z | ⟨z, -, y⟩
    · exact rg_stv p2 (Or.inl ⟨z.1, z.2.1⟩)
    · exact rg_stv p2 (Or.inr (Or.inl z))
    · exact rg_stv p2 (Or.inr (Or.inr (Or.inl z)))
    · exact rg_stv p2 (Or.inr (Or.inr (Or.inr z)))
    · subst z; exact rg_row p2 y
  · rw [hv.1 7 (by omega)]
    by_cases a : f = 0
    · rcases hx with ⟨-, e, m', h1, h2⟩ | z | z | z | z
      · subst a; subst e; rw [stv_i]; exact ⟨m', h1, h2⟩
      all_goals (exfalso; obtain ⟨z, -⟩ := z; omega)
    · rw [stv_o (by omega)]; exact ⟨m, p5, p6⟩
theorem inP_1 {x : Int32} (h : inP x 1 200) : ∃ c, 1 ≤ c ∧ c ≤ 200 ∧ x = nI c := by
  obtain ⟨j, hj, rfl⟩ := inP_of (m := 200) (by omega) ⟨Int32.le_trans (by decide) h.1, h.2⟩
  exact ⟨j, (nI_leI (by omega) (by omega)).mp h.1, hj, rfl⟩
theorem se_x {p what x : Int32} {f : Nat} (h : seO n p what x = .inr f) : (f = 3 ∧ ∃ c, c ≤ 19 ∧ x = nI c) ∨ (f = 4 ∧ ∃ c, c ≤ 99 ∧ x = nI c) ∨ (f = 5 ∧ ∃ c, 1 ≤ c ∧ c ≤ 200 ∧ x = nI c) := by
  unfold seO at h
  split at h
  · cases h
  split at h
  · split at h
    · rename_i a; cases h; exact Or.inl ⟨rfl, inP_of (m := 19) (by omega) a⟩
    · cases h
  split at h
  · split at h
    · rename_i a; cases h; exact Or.inr (Or.inl ⟨rfl, inP_of (m := 99) (by omega) a⟩)
    · cases h
  split at h
  · split at h
    · rename_i a; cases h; exact Or.inr (Or.inr ⟨rfl, inP_1 a⟩)
    · cases h
  · cases h
theorem q_set {p what x : Int32} : PCi X (d + 24) 77 [(0, .ref 0), (1, .int p), (2, .int what), (3, .int x)] 129 [(0, .ref 122), (1, .int p), (2, .int what), (3, .int x)] := by
  intro n kc I K L r Q h
  obtain ⟨q, ac, ci, mk⟩ := rel_k r
  obtain ⟨g, v⟩ := rel_g r
  refine w_set ci (fun a e => h _ _ _ _ (fun Q2 h2 => ?_)) (fun f i e hi ep => h _ _ _ _ (fun Q2 h2 => ?_))
  · refine m_set g (fun b e' => ?_) (fun f i e' => ?_)
    · rw [e] at e'; cases e'; exact h2 _ _ _ _ _ r
    · rw [e] at e'; cases e'
  · have fx := se_x e
    have hf : 3 ≤ f ∧ f ≤ 5 := by rcases fx with z | z | z <;> (obtain ⟨z, -⟩ := z; omega)
    have hm : ∀ a, (a < 40 ∨ 42 < a) → pm_up I (37 + f) (pm_up (I (37 + f)) i x) a = I a := fun a ha => if_neg (by omega)
    refine m_set (rg_vq (mw_q (fun a h1 h2 => hm a (by omega))) g) (fun b e' => ?_) (fun f' i' e' hi' ep' => ?_)
    · rw [e] at e'; cases e'
    rw [e] at e'
    have ef : f = f' + 1 := by cases e'; rfl
    have ei : i' = i := by
      have := ep.symm.trans ep'
      exact ((nI_eq (by have := g.1; omega) (by have := g.1; omega)).mp this).symm
    subst ei
    subst ef
    have ev : mw (pm_up I (37 + (f' + 1)) (pm_up (I (37 + (f' + 1))) i' x)) (f' + 1) i' = tw I 37 (f' + 1) i' := by
      have := g.1
      rw [(mw_q (fun a h1 h2 => hm a (by omega))).2.1 (f' + 1) i' (by omega) (by omega) (by omega), v.2.1 (f' + 1) i' (by omega) (by omega) (by omega)]
    rw [ev]
    refine h2 n kc _ K L (rel_pl r ?_ (Nat.le_refl _) (fun _ _ => rfl) (fun a ha => ?_) (fun j _ => ?_))
    · refine plr_set r.1 (f := f' + 1) (i := i') (x := x) (vq_tr (tw_q (fun a h1 h2 => if_neg (by omega))) (by rw [tw_s]; exact vq_rf _)) ?_ ?_
      · rw [mw_s]
        exact stv_vq (mw_q (fun a h1 h2 => hm a (by omega))) _ _ _
      · rcases fx with z | z | z
        · exact Or.inr (Or.inl z)
        · exact Or.inr (Or.inr (Or.inl z))
        · exact Or.inr (Or.inr (Or.inr (Or.inl z)))
    · exact (if_neg (by omega)).trans (hm a (by omega))
    · rw [show pm_up (pm_up I (37 + (f' + 1)) (pm_up (I (37 + (f' + 1))) i' x)) (123 + f') (pm_up ((pm_up I (37 + (f' + 1)) (pm_up (I (37 + (f' + 1))) i' x)) (123 + f')) i' x) 122 = I 122 from (if_neg (by omega)).trans (hm 122 (by omega))]
theorem ks_lt : ∀ n, n < 7 → ∀ m, m < 2 ^ n → ∀ i, i < n → ∀ b, b < 2 → (ksC (nI m) (nI i) (nI b)).toNatClampNeg < 2 ^ n ∧ ksC (nI m) (nI i) (nI b) = nI (ksC (nI m) (nI i) (nI b)).toNatClampNeg := by decide +kernel
theorem ks_n : ∀ n, n < 6 → ∀ m, m < 2 ^ n → ksC (nI m) (nI n) 0 = nI m := by decide +kernel
theorem ks_x {m i : Nat} {is : Int32} (hn : n ≤ 6) (hm : m < 2 ^ n) (hi : i < n) : ∃ m', m' < 2 ^ n ∧ ksC (nI m) (nI i) is = nI m' := by
  by_cases a : is = 0
  · obtain ⟨h1, h2⟩ := ks_lt n (by omega) m hm i hi 0 (by omega)
    subst a
    exact ⟨_, h1, h2⟩
  · obtain ⟨h1, h2⟩ := ks_lt n (by omega) m hm i hi 1 (by omega)
    have e : ksC (nI m) (nI i) is = ksC (nI m) (nI i) (nI 1) := by
      unfold ksC
      rw [if_neg a, if_neg (by decide)]
    exact ⟨_, h1, e.trans h2⟩
theorem mw_h {x : Int32} : mw (pm_up I 122 (pm_up (I 122) 3 x)) = stV (mw I) 0 7 x := by
  funext g j
  cases g with
  | zero =>
    by_cases a : j = 7
    · subst a
      rw [stv_i]
      rfl
    · rw [stv_o (by omega)]
      unfold mw pm_up
      simp only [if_pos, if_neg a, if_neg (show ¬ (0 : Nat) = 3 by omega), if_neg (show ¬ (1 : Nat) = 3 by omega), if_neg (show ¬ (2 : Nat) = 3 by omega)]
  | succ g =>
    rw [stv_o (by omega)]
    show pm_up I 122 _ (123 + g) j = I (123 + g) j
    unfold pm_up
    rw [if_neg (by omega)]
theorem q_hush {p is : Int32} : PCi X (d + 24) 78 [(0, .ref 0), (1, .int p), (2, .int is)] 131 [(0, .ref 122), (1, .int p), (2, .int is)] := by
  intro n kc I K L r Q h
  obtain ⟨q, ac, ci, mk⟩ := rel_k r
  obtain ⟨g, v⟩ := rel_g r
  have hn6 := g.1
  refine w_hush ci (fun e => h _ _ _ _ (fun Q2 h2 => ?_)) (fun i hi ep => h _ _ _ _ (fun Q2 h2 => ?_))
  · refine m_hush g (fun _ => h2 _ _ _ _ _ r) (fun i hi ep => absurd (by rw [ep]; exact hasP_nI hn6 hi) e)
  · subst ep
    have hm : ∀ (y : Nat → Int32) a, ¬ a = 37 → pm_up I 37 y a = I a := fun y a ha => if_neg ha
    refine m_hush (rg_vq (mw_q (fun a h1 h2 => hm _ a (by omega))) g) (fun e => absurd (hasP_nI hn6 hi) e) (fun i' hi' ep' => ?_)
    have ei : i = i' := (nI_eq (by omega) (by omega)).mp ep'
    subst ei
    rw [hm _ 122 (by omega)]
    have e7 : I 37 7 = I 122 3 := v.1 7 (by omega)
    rw [e7] at h2 ⊢
    refine h2 n kc _ K L (rel_pl r ?_ (Nat.le_refl _) (fun _ _ => rfl) (fun a ha => ?_) (fun j hj => ?_))
    · refine plr_set r.1 (f := 0) (i := 7) (x := ksC (I 122 3) (nI i) is) (vq_tr (tw_q (fun a h1 h2 => if_neg (by omega))) ?_) ?_ (Or.inl ⟨rfl, rfl, ?_⟩)
      · have := tw_s (I := I) (f := 0) (i := 7) (x := ksC (I 122 3) (nI i) is)
        exact Eq.subst (motive := fun z => VQ z _) this.symm (vq_rf _)
      · have := mw_h (I := pm_up I 37 (pm_up (I 37) 7 (ksC (I 122 3) (nI i) is))) (x := ksC (I 122 3) (nI i) is)
        rw [hm _ 122 (by omega)] at this
        rw [this]
        exact stv_vq (mw_q (fun a h1 h2 => hm _ a (by omega))) _ _ _
      · obtain ⟨-, -, -, -, m, h5, h6⟩ := r.1
        have e3 : I 122 3 = nI m := h6
        rw [e3]
        exact ks_x hn6 h5 hi
    · exact (if_neg (by omega)).trans (hm _ a (by omega))
    · show pm_up (I 122) 3 _ j = _
      exact if_neg (by omega)
theorem q_row {p part x : Int32} : PCi X (d + 24) 79 [(0, .ref 0), (1, .int p), (2, .int part), (3, .int x)] 132 [(0, .ref 122), (1, .int p), (2, .int part), (3, .int x)] := by
  intro n kc I K L r Q h
  obtain ⟨q, ac, ci, mk⟩ := rel_k r
  obtain ⟨g, v⟩ := rel_g r
  have hn6 := g.1
  refine w_row ci (fun a e => h _ _ _ _ (fun Q2 h2 => ?_)) (fun i j e hi ep hj ej => h _ _ _ _ (fun Q2 h2 => ?_))
  · rw [ro_vq v hn6] at e
    refine m_row g (fun b e' => ?_) (fun i j e' => ?_)
    · rw [e] at e'; cases e'; exact h2 _ _ _ _ _ r
    · rw [e] at e'; cases e'
  · subst ep
    subst ej
    rw [ro_vq v hn6] at e
    have hx : ∃ c, c ≤ 9 ∧ x = nI c := by
      unfold roO at e
      split at e
      · cases e
      split at e
      · cases e
      · rename_i a
        exact inP_of (m := 9) (by omega) (Decidable.not_not.mp a)
    have hm : ∀ (y : Nat → Int32) a, ¬ a = 43 → pm_up I 43 y a = I a := fun y a ha => if_neg ha
    have hq := mw_q (I := I) (I' := pm_up I 43 (pm_up (I 43) (4 * i + j) x)) (fun a h1 h2 => hm _ a (by omega))
    refine m_row (rg_vq hq g) (fun b e' => ?_) (fun i' j' e' hi' ep' hj' ej' => ?_)
    · rw [ro_vq hq hn6, e] at e'; cases e'
    have ei : i = i' := (nI_eq (by omega) (by omega)).mp ep'
    have ej : j = j' := (nI_eq (by omega) (by omega)).mp ej'
    subst ei
    subst ej
    rw [hm _ 128 (by omega)]
    have e7 : I 43 (4 * i + j) = I 128 (4 * i + j) := v.2.2 (4 * i + j) (by omega)
    rw [e7] at h2
    refine h2 n kc _ K L (rel_pl r ?_ (Nat.le_refl _) (fun _ _ => rfl) (fun a ha => ?_) (fun j' hj => ?_))
    · refine plr_set r.1 (f := 6) (i := 4 * i + j) (x := x) (vq_tr (tw_q (fun a h1 h2 => if_neg (by omega))) ?_) ?_ (Or.inr (Or.inr (Or.inr (Or.inr ⟨rfl, by omega, hx⟩))))
      · have := tw_s (I := I) (f := 6) (i := 4 * i + j) (x := x)
        exact Eq.subst (motive := fun z => VQ z _) this.symm (vq_rf _)
      · have := mw_s (I := pm_up I 43 (pm_up (I 43) (4 * i + j) x)) (f := 5) (i := 4 * i + j) (x := x)
        rw [hm _ (123 + 5) (by omega)] at this
        have e : mw (pm_up (pm_up I 43 (pm_up (I 43) (4 * i + j) x)) 128 (pm_up (I 128) (4 * i + j) x)) = _ := this
        rw [e]
        exact stv_vq hq _ _ _
    · exact (if_neg (by omega)).trans (hm _ a (by omega))
    · rw [show pm_up (pm_up I 43 (pm_up (I 43) (4 * i + j) x)) 128 (pm_up (I 128) (4 * i + j) x) 122 = I 122 from (if_neg (by omega)).trans (hm _ 122 (by omega))]
theorem nI_plus {a b : Nat} (h : a + b < 2 ^ 31) : nI a + nI b = nI (a + b) := by
  apply i_of
  rw [Int32.toInt_add, nI_toInt (by omega), nI_toInt (by omega), nI_toInt (by omega), Int.bmod_eq_of_le (by omega) (by omega)]
  omega
theorem bts_6 (n : Nat) (k : ktp) (w : Vw) : ∀ m, bts n k m w 6 = w 6 ∧ bts n k m w 0 7 = w 0 7
  | 0 => ⟨rfl, rfl⟩
  | m + 1 => by
    obtain ⟨h1, h2⟩ := bts_6 n k w m
    exact ⟨(show bts n k (m + 1) w 6 = bts n k m w 6 from rfl).trans h1, (show bts n k (m + 1) w 0 7 = bts n k m w 0 7 from rfl).trans h2⟩
theorem plr_bts {w v w' v' : Vw} {k : ktp} {x : Int32} {m : Nat} (p : PLR n w v) (hx : paO v x = none) (em : x = nI m) (hm : m ≤ 60) (hw : VQ w' (bts n k m w)) (hv : VQ v' (bts n k m v)) : PLR n w' v' := by
  obtain ⟨p1, p2, p3, p4, mm, p5, p6⟩ := p
  have hn := p2.1
  refine ⟨(hw.1 0 (by omega)).trans ((bts_np n k w m).trans p1), rg_vq hv ?_, vq_tr hw (vq_tr (bts_vq p3 hn k m) (vq_sy hv)), fun j h1 h2 => (hv.2.2 j h2).trans (by rw [(bts_6 n k v m).1]; exact p4 j h1 h2), mm, p5, (hv.1 7 (by omega)).trans (by rw [(bts_6 n k v m).2]; exact p6)⟩
  obtain ⟨g1, g2, ⟨b, hb, eb⟩, g4⟩ := p2
  have := rg_bts (n := n) (B := b) (w := v) ⟨g1, g2, ⟨b, Nat.le_refl _, eb⟩, g4⟩ k m
  refine rg_B ?_ this
  unfold paO at hx
  split at hx
  · cases hx
  split at hx
  · rename_i a
    rw [eb, em, nI_plus (by omega), show (9999 : Int32) = nI 9999 from rfl, nI_leI (by omega) (by omega)] at a
    exact a
  · cases hx
theorem q_pass {x : Int32} : PCi X (d + 24) 83 [(0, .ref 0), (1, .int x)] 169 [(0, .ref 122), (1, .int x)] := by
  intro n kc I K L r Q h
  obtain ⟨q, ac, ci, mk⟩ := rel_k r
  obtain ⟨g, v⟩ := rel_g r
  have hn6 := g.1
  refine w_pass ci (fun a e => h _ _ _ _ (fun Q2 h2 => ?_)) (fun m e hm ex I1 b1 b2 => h _ _ _ _ (fun Q2 h2 => ?_))
  · rw [pa_vq v] at e
    refine m_pass g (by omega) mk (fun b e' => ?_) (fun m e' => ?_)
    · rw [e] at e'; cases e'; exact h2 _ _ _ _ _ r
    · rw [e] at e'; cases e'
  · rw [pa_vq v] at e
    have hq := mw_q (I := I) (I' := I1) (fun a h1 h2 => b2 a (by omega))
    refine m_pass (rg_vq hq g) (by omega) (mk_cg (by rw [b2 122 (by omega)]) (fun a _ _ => b2 a (by omega)) mk) (fun b e' => ?_) (fun m' e' hm' ex' I2 f1 f2 => ?_)
    · rw [pa_vq hq, e] at e'; cases e'
    have em : m = m' := (nI_eq (by omega) (by omega)).mp (ex.symm.trans ex')
    subst em
    rw [← noi_vq (bts_vq (vq_tr v (vq_sy hq)) hn6 (kOf ac) m) hn6]
    refine h2 n kc _ K L (rel_pl r (plr_bts r.1 e ex hm (k := kOf ac) (vq_tr (tw_q (fun a h1 h2 => f2.1 a (by omega) (by omega) (by omega))) (ve_vq b1)) (vq_tr (ve_vq f1) (bts_vq hq hn6 _ _))) (Nat.le_refl _) (fun _ _ => rfl) (fun a ha => ?_) (fun j hj => ?_))
    · exact (f2.1 a (by omega) (by omega) (by omega)).trans (b2 a (by omega))
    · exact (f2.2 j (by omega)).trans (by rw [b2 122 (by omega)])
theorem pl_x {kd v s l p : Int32} (h : plO n kd v s l p = none) : (∃ c, c < 7 ∧ kd = nI c) ∧ (∃ c, c ≤ 9 ∧ v = nI c) ∧ (∃ c, c ≤ 19 ∧ s = nI c) ∧ (∃ c, c ≤ 99 ∧ l = nI c) ∧ ∃ c, 1 ≤ c ∧ c ≤ 200 ∧ p = nI c := by
  unfold plO at h
  split at h
  · cases h
  split at h
  · cases h
  rename_i a1 a2
  obtain ⟨c, c1, c2⟩ := inP_of (m := 6) (by omega) (Decidable.not_not.mp a1)
  exact ⟨⟨c, by omega, c2⟩, inP_of (m := 9) (by omega) (Decidable.not_not.mp (fun z => a2 (Or.inl z))), inP_of (m := 19) (by omega) (Decidable.not_not.mp (fun z => a2 (Or.inr (Or.inl z)))), inP_of (m := 99) (by omega) (Decidable.not_not.mp (fun z => a2 (Or.inr (Or.inr (Or.inl z))))), inP_1 (Decidable.not_not.mp (fun z => a2 (Or.inr (Or.inr (Or.inr z)))))⟩
theorem q_player {kd v s l p : Int32} : PCi X (d + 24) 75 [(0, .ref 0), (1, .int kd), (2, .int v), (3, .int s), (4, .int l), (5, .int p)] 128 [(0, .ref 122), (1, .int kd), (2, .int v), (3, .int s), (4, .int l), (5, .int p)] := by
  intro n kc I K L r Q h
  obtain ⟨q, ac, ci, mk⟩ := rel_k r
  obtain ⟨g, vq⟩ := rel_g r
  have hn6 := g.1
  refine w_player ci (fun a e => h _ _ _ _ (fun Q2 h2 => ?_)) (fun e hn I1 b0 b1 b2 b3 b4 b5 b6 => h _ _ _ _ (fun Q2 h2 => ?_))
  · refine m_player g (fun b e' => ?_) (fun e' => ?_)
    · rw [e] at e'; cases e'; exact h2 _ _ _ _ _ r
    · rw [e] at e'; cases e'
  · have hm : ∀ a, 122 ≤ a → I1 a = I a := fun a ha => b6 a (by omega)
    refine m_player (rg_vq (mw_q (fun a h1 h2 => hm a (by omega))) g) (fun b e' => ?_) (fun e' hn' I2 c0 c1 c2 c3 c4 c5 c6 c7 => ?_)
    · rw [e] at e'; cases e'
    rw [hm 122 (by omega)] at c0
    rw [hm 123 (by omega)] at c1
    rw [hm 124 (by omega)] at c2
    rw [hm 125 (by omega)] at c3
    rw [hm 126 (by omega)] at c4
    rw [hm 127 (by omega)] at c5
    rw [hm 128 (by omega)] at c6
    obtain ⟨p1, ⟨g1, g2, ⟨b, hb, eb⟩, g4, g5⟩, p3, p4, m, p5, p6⟩ := id r.1
    have e3 : I 122 3 = nI m := p6
    have ek : ksC (I 122 3) (nI n) 0 = I 122 3 := by rw [e3]; exact ks_n n hn m p5
    have cls : ∀ a, a < 122 → I2 a = I1 a := fun a ha => c7 a (by omega)
    obtain ⟨x1, x2, x3, x4, x5⟩ := pl_x e
    have h6 : ∀ j, j < 24 → I2 128 j = I 128 j := fun j hj => by
      rw [c6]
      by_cases a : 4 * n ≤ j ∧ j < 4 * n + 4
      · rw [if_pos a]; exact (p4 j a.1 hj).symm
      · rw [if_neg a]
    have hnv : ∀ j, j = 0 ∨ j = 3 ∨ ¬ (j = 0 ∨ j = 3) := by intro j; omega
    have z0 : I2 122 0 = nI (n + 1) := by rw [c0, if_pos rfl]
    have z3 : I2 122 3 = I 122 3 := by rw [c0, if_neg (by omega), if_pos rfl]; exact ek
    have zz : ∀ j, ¬ j = 0 → ¬ j = 3 → I2 122 j = I 122 j := fun j h1 h2 => by rw [c0, if_neg h1, if_neg h2]
    refine h2 (n + 1) kc _ K L (rel_pl r ⟨?_, ⟨by omega, z0, ⟨b, hb, (zz 1 (by omega) (by omega)).trans eb⟩, fun i hi => ?_, fun j hj => by show ∃ c, c ≤ 9 ∧ I2 128 j = nI c; rw [h6 j hj]; exact g5 j hj⟩, ⟨fun j hj => ?_, fun f j f1 f2 hj => ?_, fun j hj => ?_⟩, fun j h1 h2 => ?_, m, by rw [Nat.pow_succ]; omega, z3.trans e3⟩ (by omega) (fun _ _ => rfl) (fun a ha => ?_) (fun j hj => ?_))
    · show I2 37 0 = _
      rw [cls 37 (by omega), b0, if_pos rfl]
    · show (∃ c, c < 7 ∧ I2 123 i = nI c) ∧ (∃ c, c ≤ 9 ∧ I2 124 i = nI c) ∧ (∃ c, c ≤ 19 ∧ I2 125 i = nI c) ∧ (∃ c, c ≤ 99 ∧ I2 126 i = nI c) ∧ ∃ c, 1 ≤ c ∧ c ≤ 200 ∧ I2 127 i = nI c
      rw [c1, c2, c3, c4, c5]
      unfold pm_up
      by_cases a : i = n
      · simp only [if_pos a]; exact ⟨x1, x2, x3, x4, x5⟩
      · simp only [if_neg a]; exact g4 i (by omega)
    · rcases hj with rfl | rfl | rfl | rfl
      · show I2 37 0 = I2 122 0
        rw [cls 37 (by omega), b0, if_pos rfl, z0]
      · show I2 37 7 = I2 122 3
        rw [cls 37 (by omega), b0, if_neg (by omega), z3]
        exact p3.1 7 (by omega)
      · show I2 37 8 = I2 122 1
        rw [cls 37 (by omega), b0, if_neg (by omega), zz 1 (by omega) (by omega)]
        exact p3.1 8 (by omega)
      · show I2 37 9 = I2 122 2
        rw [cls 37 (by omega), b0, if_neg (by omega), zz 2 (by omega) (by omega)]
        exact p3.1 9 (by omega)
    · have hj' := p3.2.1 f j f1 f2 hj
      show I2 (37 + f) j = mw I2 f j
      rw [cls (37 + f) (by omega)]
      obtain rfl | rfl | rfl | rfl | rfl : f = 1 ∨ f = 2 ∨ f = 3 ∨ f = 4 ∨ f = 5 := by omega
      · show I1 38 j = I2 123 j
        rw [b1, c1]; unfold pm_up; split
        · rfl
        · exact hj'
      · show I1 39 j = I2 124 j
        rw [b2, c2]; unfold pm_up; split
        · rfl
        · exact hj'
      · show I1 40 j = I2 125 j
        rw [b3, c3]; unfold pm_up; split
        · rfl
        · exact hj'
      · show I1 41 j = I2 126 j
        rw [b4, c4]; unfold pm_up; split
        · rfl
        · exact hj'
      · show I1 42 j = I2 127 j
        rw [b5, c5]; unfold pm_up; split
        · rfl
        · exact hj'
    · show I2 43 j = I2 128 j
      rw [cls 43 (by omega), b6 43 (by omega), h6 j hj]
      exact p3.2.2 j hj
    · show I2 128 j = 0
      rw [h6 j h2]
      exact p4 j (by omega) h2
    · by_cases a1 : a < 122
      · exact (cls a a1).trans (b6 a (by omega))
      · exact (c7 a (by omega)).trans (hm a (by omega))
    · exact zz j (by omega) (by omega)
end UPD
