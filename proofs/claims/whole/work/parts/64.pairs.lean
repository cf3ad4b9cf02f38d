/-! BOTH SIDES: a call of the class, and then the same call of the model -/
def PMo (X : pm_X) (D m : Nat) (ls : pm_l) (v : Value) (I : pm_I) (L : pm_L) (K : Nat → Nat) : Prop := ∀ Q : pm_Q, (∀ n kc (I' : pm_I) (K' : Nat → Nat) (L' : pm_L), REL n kc I' K' L' I' L' → Q (some v) SH I' L' (RR K')) → pm_wp X D m 0 ls [] 0 0 SH I L (RR K) Q
def PCi (X : pm_X) (D c : Nat) (ls : pm_l) (m : Nat) (ls' : pm_l) : Prop := ∀ n kc (I : pm_I) (K : Nat → Nat) (L : pm_L), REL n kc I K L I L → ∀ Q : pm_Q, (∀ v (I' : pm_I) (L' : pm_L) (K' : Nat → Nat), PMo X D m ls' (.int v) I' L' K' → Q (some (.int v)) SH I' L' (RR K')) → pm_wp X D c 0 ls [] 0 0 SH I L (RR K) Q
def PCl (X : pm_X) (D c : Nat) (ls : pm_l) (m : Nat) (ls' : pm_l) : Prop := ∀ n kc (I : pm_I) (K : Nat → Nat) (L : pm_L), REL n kc I K L I L → ∀ Q : pm_Q, (∀ v (I' : pm_I) (L' : pm_L) (K' : Nat → Nat), PMo X D m ls' (.long v) I' L' K' → Q (some (.long v)) SH I' L' (RR K')) → pm_wp X D c 0 ls [] 0 0 SH I L (RR K) Q
section PAIR
variable {X : pm_X} {d : Nat}
theorem mk_fc {I I' : pm_I} {ac : List acl} (f : FrC I' I) (g : MK I ac) : MK I' ac := mk_cg (by rw [f 122 (by omega) (by omega)]) (fun a _ _ => f a (by omega) (by omega)) g
theorem q_of {p what : Int32} : PCi X (d + 24) 76 [(0, .ref 0), (1, .int p), (2, .int what)] 165 [(0, .ref 122), (1, .int p), (2, .int what)] := by
  intro n kc I K L r Q h
  obtain ⟨q, ac, ci, mk⟩ := rel_k r
  refine w_of ci (fun I1 K1 f e => h _ _ _ _ (fun Q2 h2 => ?_))
  have r1 := rel_fc r f e
  have g1 := rel_g r1
  refine m_of g1.1 (by omega) (mk_fc f mk) (fun I2 f2 => ?_)
  rw [← of_vq (vq_tr (rel_g r).2 (vq_sy (ve_vq (mw_cg (fun a h => f a (by omega) (by omega)))))) ci.2.1]
  exact h2 _ _ _ _ _ (rel_fm r1 f2)
theorem rel_v {n kc : Nat} {I I' : pm_I} {K : Nat → Nat} {L : pm_L} (r : REL n kc I K L I L) (f : FrC I' I) : VQ (tw I 37) (mw I') := vq_tr (rel_g r).2 (vq_sy (ve_vq (mw_cg (fun a h => f a (by omega) (by omega)))))
theorem q_on {x what : Int32} : PCi X (d + 24) 84 [(0, .ref 0), (1, .int x), (2, .int what)] 173 [(0, .ref 122), (1, .int x), (2, .int what)] := by
  intro n kc I K L r Q h
  obtain ⟨q, ac, ci, mk⟩ := rel_k r
  refine w_on ci (fun I1 K1 f e => h _ _ _ _ (fun Q2 h2 => ?_))
  have r1 := rel_fc r f e
  refine m_on (rel_g r1).1 (by omega) (mk_fc f mk) (fun I2 f2 => ?_)
  rw [← on_vq (rel_v r f) ci.2.1]
  exact h2 _ _ _ _ _ (rel_fm r1 f2)
theorem q_wakes : PCi X (d + 24) 85 [(0, .ref 0)] 180 [(0, .ref 122)] := by
  intro n kc I K L r Q h
  obtain ⟨q, ac, ci, mk⟩ := rel_k r
  refine w_wakes ci (fun I1 K1 f e => h _ _ _ _ (fun Q2 h2 => ?_))
  have r1 := rel_fc r f e
  refine m_wakes (rel_g r1).1 (by omega) (mk_fc f mk) (fun I2 f2 => ?_)
  rw [← wb_vq (rel_v r f) ci.2.1]
  exact h2 _ _ _ _ _ (rel_fm r1 f2)
theorem q_settles : PCi X (d + 24) 86 [(0, .ref 0)] 181 [(0, .ref 122)] := by
  intro n kc I K L r Q h
  obtain ⟨q, ac, ci, mk⟩ := rel_k r
  refine w_settles ci (fun I1 K1 f e => h _ _ _ _ (fun Q2 h2 => ?_))
  have r1 := rel_fc r f e
  refine m_settles (rel_g r1).1 (by omega) (mk_fc f mk) (fun I2 f2 => ?_)
  rw [← sb_vq (rel_v r f) ci.2.1]
  exact h2 _ _ _ _ _ (rel_fm r1 f2)
theorem q_leader {x : Int32} : PCi X (d + 24) 87 [(0, .ref 0), (1, .int x)] 182 [(0, .ref 122), (1, .int x)] := by
  intro n kc I K L r Q h
  obtain ⟨q, ac, ci, mk⟩ := rel_k r
  refine w_leader ci (fun I1 K1 f e => h _ _ _ _ (fun Q2 h2 => ?_))
  have r1 := rel_fc r f e
  refine m_leader (rel_g r1).1 (by omega) (mk_fc f mk) (fun I2 f2 => ?_)
  rw [← le_vq (rel_v r f) ci.2.1]
  exact h2 _ _ _ _ _ (rel_fm r1 f2)
theorem q_seats : PCi X (d + 24) 88 [(0, .ref 0)] 183 [(0, .ref 122)] := by
  intro n kc I K L r Q h
  obtain ⟨q, ac, ci, mk⟩ := rel_k r
  refine w_seats ci (fun I1 K1 f e => h _ _ _ _ (fun Q2 h2 => ?_))
  have r1 := rel_fc r f e
  refine m_seats (rel_g r1).1 (by omega) (mk_fc f mk) (fun I2 f2 => ?_)
  rw [← cs_vq (rel_v r f) ci.2.1 _ _ (Nat.le_refl _)]
  exact h2 _ _ _ _ _ (rel_fm r1 f2)
theorem q_whoHush : PCi X (d + 24) 89 [(0, .ref 0)] 184 [(0, .ref 122)] := by
  intro n kc I K L r Q h
  obtain ⟨q, ac, ci, mk⟩ := rel_k r
  refine w_whoHush ci (fun I1 K1 f e => h _ _ _ _ (fun Q2 h2 => ?_))
  have r1 := rel_fc r f e
  refine m_whoHush (rel_g r1).1 (by omega) (mk_fc f mk) (fun I2 f2 => ?_)
  rw [← bsP_vq (rel_v r f) ci.2.1]
  exact h2 _ _ _ _ _ (rel_fm r1 f2)
theorem q_quick {p : Int32} : PCi X (d + 24) 90 [(0, .ref 0), (1, .int p)] 185 [(0, .ref 122), (1, .int p)] := by
  intro n kc I K L r Q h
  obtain ⟨q, ac, ci, mk⟩ := rel_k r
  refine w_quick ci (fun I1 K1 f e => h _ _ _ _ (fun Q2 h2 => ?_))
  have r1 := rel_fc r f e
  refine m_quick (rel_g r1).1 (by omega) (mk_fc f mk) (fun I2 f2 => ?_)
  rw [← qu_vq (rel_v r f) ci.2.1]
  exact h2 _ _ _ _ _ (rel_fm r1 f2)
theorem q_best {x : Int32} : PCi X (d + 24) 91 [(0, .ref 0), (1, .int x)] 186 [(0, .ref 122), (1, .int x)] := by
  intro n kc I K L r Q h
  obtain ⟨q, ac, ci, mk⟩ := rel_k r
  refine w_best ci (fun I1 K1 f e => h _ _ _ _ (fun Q2 h2 => ?_))
  have r1 := rel_fc r f e
  refine m_best (rel_g r1).1 (by omega) (mk_fc f mk) (fun I2 f2 => ?_)
  rw [← be_vq (rel_v r f) ci.2.1]
  exact h2 _ _ _ _ _ (rel_fm r1 f2)
theorem q_odds {x part : Int32} : PCl X (d + 24) 95 [(0, .ref 0), (1, .int x), (2, .int part)] 193 [(0, .ref 122), (1, .int x), (2, .int part)] := by
  intro n kc I K L r Q h
  obtain ⟨q, ac, ci, mk⟩ := rel_k r
  refine w_odds ci (fun I1 K1 f e => h _ _ _ _ (fun Q2 h2 => ?_))
  have r1 := rel_fc r f e
  refine m_odds (rel_g r1).1 (by omega) (mk_fc f mk) (fun I2 f2 => ?_)
  rw [← od_vq (rel_v r f) ci.2.1]
  exact h2 _ _ _ _ _ (rel_fm r1 f2)
theorem q_mean {x part : Int32} : PCl X (d + 24) 96 [(0, .ref 0), (1, .int x), (2, .int part)] 194 [(0, .ref 122), (1, .int x), (2, .int part)] := by
  intro n kc I K L r Q h
  obtain ⟨q, ac, ci, mk⟩ := rel_k r
  refine w_mean ci ?_ (fun I1 K1 f e => h _ _ _ _ (fun Q2 h2 => ?_))
  · intro i hi
    obtain ⟨-, -, -, -, c, c1, c2, c3⟩ := (rel_g r).1.2.2.2.1 i hi
    exact ⟨c, c1, c2, ((rel_g r).2.2.1 5 i (by omega) (by omega) (by have := ci.2.1; omega)).trans c3⟩
  have r1 := rel_fc r f e
  refine m_mean (rel_g r1).1 (by omega) (mk_fc f mk) (fun I2 f2 => ?_)
  rw [← me_vq (rel_v r f) ci.2.1]
  exact h2 _ _ _ _ _ (rel_fm r1 f2)
theorem q_told {what : Int32} : PCi X (d + 24) 82 [(0, .ref 0), (1, .int what)] 166 [(0, .ref 122), (1, .int what)] := by
  intro n kc I K L r Q h
  obtain ⟨q, ac, ci, mk⟩ := rel_k r
  refine w_told ci (h _ _ _ _ (fun Q2 h2 => ?_))
  refine m_told (rel_g r).1 mk ?_
  rw [← to_vq (rel_g r).2 ci.2.1]
  exact h2 _ _ _ _ _ r
theorem q_taken {p kk : Int32} : PCi X (d + 24) 106 [(0, .ref 0), (1, .int p), (2, .int kk)] 212 [(0, .ref 122), (1, .int p), (2, .int kk)] := by
  intro n kc I K L r Q h
  obtain ⟨q, ac, ci, mk⟩ := rel_k r
  refine w_taken ci ?_ (h _ _ _ _ (fun Q2 h2 => ?_))
  · intro i hi
    obtain ⟨⟨c, c1, c2⟩, -⟩ := (rel_g r).1.2.2.2.1 i hi
    exact ⟨c, c1, ((rel_g r).2.2.1 1 i (by omega) (by omega) (by have := ci.2.1; omega)).trans c2⟩
  refine m_taken (rel_g r).1 ?_
  rw [← tk_vq (rel_g r).2 ci.2.1]
  exact h2 _ _ _ _ _ r
theorem q_trace {i : Int32} : PCi X (d + 24) 105 [(0, .ref 0), (1, .int i)] 211 [(0, .ref 122), (1, .int i)] := by
  intro n kc I K L r Q h
  obtain ⟨l, l1, l2, l3⟩ := r.2.2.2.2.2.2.2.2.1
  refine w_trace l2 (by omega) (h _ _ _ _ (fun Q2 h2 => ?_))
  refine m_trace l3 (by omega) ?_
  exact h2 _ _ _ _ _ r
theorem q_count {what : Int32} : PCi X (d + 24) 107 [(0, .ref 0), (1, .int what)] 213 [(0, .ref 122), (1, .int what)] := by
  intro n kc I K L r Q h
  refine w_count (h _ _ _ _ (fun Q2 h2 => ?_))
  refine m_count ?_
  obtain ⟨pl, ki, cu, ⟨s, s1, s2, s3, s4⟩, ⟨z, z1, z2, z3, z4⟩, ⟨y, y1, y2, y3, y4⟩, ⟨x, x1, x2, x3, x4⟩, im, ⟨l, l1, l2, l3⟩, tp, lt⟩ := id r
  have e0 : I 37 0 = nI n := pl.1
  have e1 : I 122 0 = nI n := pl.2.1.2.1
  rw [e1, ki.2.1, z3, y3, x3, s3, l3.1, ← e0, ← ki.1, ← z2, ← y2, ← x2, ← s2, ← l2.1]
  exact h2 _ _ _ _ _ r
theorem q_looked : PCi X (d + 24) 100 [(0, .ref 0)] 198 [(0, .ref 122)] := by
  intro n kc I K L r Q h
  obtain ⟨q, ac, ci, mk⟩ := rel_k r
  obtain ⟨sz, z1, z2, z3, z4⟩ := r.2.2.2.2.2.2.1
  refine w_looked ci z2 z1 (h _ _ _ _ (fun Q2 h2 => ?_))
  refine m_looked (rel_g r).1 z3 z1 (fun z hz => (z4 z hz).2.2) ?_
  rw [← lk_eq (rel_g r).2 ci.2.1 (fun z hz => ⟨(z4 z hz).1, (z4 z hz).2.1⟩)]
  exact h2 _ _ _ _ _ r
theorem q_gone {what : Int32} : PCi X (d + 24) 98 [(0, .ref 0), (1, .int what)] 196 [(0, .ref 122), (1, .int what)] := by
  intro n kc I K L r Q h
  obtain ⟨q, ac, ci, mk⟩ := rel_k r
  obtain ⟨sz, z1, z2, z3, z4⟩ := r.2.2.2.2.2.1
  refine w_gone ci z2 z1 (fun I1 K1 f e => h _ _ _ _ (fun Q2 h2 => ?_))
  have r1 := rel_fc r f e
  refine m_gone (rel_g r1).1 (by omega) (mk_fc f mk) (by rw [f 122 (by omega) (by omega)]; exact z3) z1 (fun I2 f2 => ?_)
  rw [f 148 (by omega) (by omega), f 149 (by omega) (by omega), ← go_eq (rel_v r f) ci.2.1 z4]
  exact h2 _ _ _ _ _ (rel_fm r1 f2)
theorem rel_M {n kc sz : Nat} {I : pm_I} {K : Nat → Nat} {L : pm_L} (z4 : ∀ j, j < sz → I 5 j = I 145 j ∧ I 6 j = I 146 j ∧ I 7 j = I 147 j ∧ (∃ p, p < n ∧ I 145 j = nI p) ∧ ∃ t, t ≤ 8 ∧ I 147 j = nI t) :
    mxT (I 7) sz = nI (MT (I 7) sz) ∧ MT (I 7) sz ≤ 8 ∧ ∀ z, z < sz → ∃ m, m ≤ MT (I 7) sz ∧ I 147 z = nI m := by
  have h := MT_nI (T := I 7) (B := 8) (by omega) (sz := sz) (fun z hz => by
    obtain ⟨-, -, a, -, t, b, c⟩ := z4 z hz
    exact ⟨t, b, a.trans c⟩)
  refine ⟨h.1, h.2, fun z hz => ?_⟩
  obtain ⟨-, -, a, -, t, b, c⟩ := z4 z hz
  have e := MT_le (T := I 7) hz
  rw [a, c, nI_clamp (by omega)] at e
  exact ⟨t, e, c⟩
theorem q_who : PCi X (d + 24) 93 [(0, .ref 0)] 189 [(0, .ref 122)] := by
  intro n kc I K L r Q h
  obtain ⟨q, ac, ci, mk⟩ := rel_k r
  obtain ⟨sz, z1, z2, z3, z4⟩ := r.2.2.2.2.1
  obtain ⟨m1, m2, m3⟩ := rel_M (kc := kc) (K := K) (L := L) z4
  refine w_who ci z2 z1 m1 (by omega) (fun I1 K1 f e => h _ _ _ _ (fun Q2 h2 => ?_))
  have r1 := rel_fc r f e
  refine m_who (rel_g r1).1 (by omega) (mk_fc f mk) (by rw [f 122 (by omega) (by omega)]; exact z3) z1 (fun z hz => by rw [f 145 (by omega) (by omega)]; exact (z4 z hz).2.2.2.1) (fun z hz => by rw [f 147 (by omega) (by omega)]; exact m3 z hz) m2 (fun I2 f2 => ?_)
  rw [f 145 (by omega) (by omega), f 146 (by omega) (by omega), f 147 (by omega) (by omega), ← wh_eq (rel_v r f) ci.2.1 (fun z hz => ⟨(z4 z hz).1, (z4 z hz).2.1, (z4 z hz).2.2.1⟩)]
  exact h2 _ _ _ _ _ (rel_fm r1 f2)
theorem q_was {p what : Int32} : PCi X (d + 24) 94 [(0, .ref 0), (1, .int p), (2, .int what)] 190 [(0, .ref 122), (1, .int p), (2, .int what)] := by
  intro n kc I K L r Q h
  obtain ⟨q, ac, ci, mk⟩ := rel_k r
  obtain ⟨sz, z1, z2, z3, z4⟩ := r.2.2.2.2.1
  obtain ⟨m1, m2, m3⟩ := rel_M (kc := kc) (K := K) (L := L) z4
  refine w_was ci z2 z1 m1 (by omega) (fun I1 K1 f e => h _ _ _ _ (fun Q2 h2 => ?_))
  have r1 := rel_fc r f e
  refine m_was (rel_g r1).1 (by omega) (mk_fc f mk) (by rw [f 122 (by omega) (by omega)]; exact z3) z1 (fun z hz => by rw [f 145 (by omega) (by omega)]; exact (z4 z hz).2.2.2.1) (fun z hz => by rw [f 147 (by omega) (by omega)]; exact m3 z hz) m2 (fun I2 f2 => ?_)
  rw [f 145 (by omega) (by omega), f 146 (by omega) (by omega), f 147 (by omega) (by omega), ← wa_eq (rel_v r f) ci.2.1 (fun z hz => ⟨(z4 z hz).1, (z4 z hz).2.1, (z4 z hz).2.2.1⟩)]
  exact h2 _ _ _ _ _ (rel_fm r1 f2)
theorem tz_of {I J : pm_I} {L M : pm_L} (t : TPR I L J M) : TZ I := by
  intro i hi
  obtain ⟨t1, t2, -⟩ := t.2 i hi
  rcases t.1 i hi with ⟨-, a⟩ | ⟨-, m, a, b⟩
  · exact ⟨0, by omega, t2.trans a⟩
  · exact ⟨m, a, t2.trans b⟩
theorem tp_of {I J : pm_I} {L M : pm_L} (t : TPR I L J M) : ∀ i, i < 6 → ∃ m, m ≤ 60 ∧ J 167 i = nI m ∧ ∀ j, j < m → tpI L i j = mtI M i j := by
  intro i hi
  obtain ⟨-, t2, t3⟩ := t.2 i hi
  obtain ⟨m, a, b⟩ := tz_of t i hi
  exact ⟨m, a, t2.symm.trans b, t3 m a (t2.symm.trans b)⟩
theorem q_judge {t i : Int32} : PCi X (d + 24) 101 [(0, .ref 0), (1, .int t), (2, .int i)] 199 [(0, .ref 122), (1, .int t), (2, .int i)] := by
  intro n kc I K L r Q h
  obtain ⟨q, ac, ci, mk⟩ := rel_k r
  have tp := r.2.2.2.2.2.2.2.2.2.1
  refine w_judge ci (tz_of tp) (h _ _ _ _ (fun Q2 h2 => ?_))
  refine m_judge (rel_g r).1 tp.1 ?_
  rw [← jd_eq (rel_g r).2 ci.2.1 (fun t ht => ⟨(tp.2 t ht).1, (tp.2 t ht).2.1⟩) (tp_of tp)]
  exact h2 _ _ _ _ _ r
theorem in_m1 {m : Nat} {i : Int32} (hm : m ≤ 60) (h : inP i 0 (nI m - 1)) : ∃ j, j < m ∧ i = nI j := by
  cases m with
  | zero =>
    obtain ⟨h1, h2⟩ := h
    have := Int32.le_trans h1 h2
    exact absurd this (by decide)
  | succ m =>
    rw [show (1 : Int32) = nI 1 from rfl, nI_sub (by omega) (by omega)] at h
    obtain ⟨j, hj, e⟩ := inP_of (m := m) (by omega) h
    exact ⟨j, by omega, e⟩
theorem rd_eq {Z Z' : Nat → Int32} {it it' : Nat → Nat → Int64} (hZ : ∀ t, t < 6 → Z t = Z' t) (h : ∀ t, t < 6 → ∃ m, m ≤ 60 ∧ Z' t = nI m ∧ ∀ j, j < m → it t j = it' t j) (t i : Int32) : rdC Z it t i = rdC Z' it' t i := by
  unfold rdC
  by_cases a1 : inP t 0 5
  · obtain ⟨t, ht, rfl⟩ := inP_of (m := 5) (by omega) a1
    obtain ⟨m, hm, em, hj⟩ := h t (by omega)
    rw [nI_clamp (by omega), hZ t (by omega), em]
    by_cases a2 : inP i 0 (nI m - 1)
    · obtain ⟨j, hjm, rfl⟩ := in_m1 hm a2
      rw [if_pos ⟨a1, a2⟩, if_pos ⟨a1, a2⟩, nI_clamp (by omega), hj j hjm]
    · rw [if_neg (fun z => a2 z.2), if_neg (fun z => a2 z.2)]
  · rw [if_neg (fun z => a1 z.1), if_neg (fun z => a1 z.1)]
theorem q_read {t i : Int32} : PCl X (d + 24) 110 [(0, .ref 0), (1, .int t), (2, .int i)] 218 [(0, .ref 122), (1, .int t), (2, .int i)] := by
  intro n kc I K L r Q h
  have tp := r.2.2.2.2.2.2.2.2.2.1
  refine w_read (tz_of tp) (h _ _ _ _ (fun Q2 h2 => ?_))
  refine m_read tp.1 ?_
  rw [← rd_eq (fun t ht => (tp.2 t ht).2.1) (tp_of tp)]
  exact h2 _ _ _ _ _ r
end PAIR
