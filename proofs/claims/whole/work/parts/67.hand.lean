/-! BOTH SIDES: what is told by hand: rows, text, acts -/
section HAND
variable {X : pm_X} {d n kc sz : Nat} {I I' : pm_I} {K K' : Nat → Nat} {L : pm_L}
theorem snr_put {F S T F' S' T' : Nat → Int32} {p c t : Int32} (hs : sz < 5) (h : ∀ j, j < sz → F j = F' j ∧ S j = S' j ∧ T j = T' j ∧ (∃ p, p < n ∧ F' j = nI p) ∧ ∃ t, t ≤ 8 ∧ T' j = nI t) (hp : ∃ a, a < n ∧ p = nI a) (ht : ∃ a, a ≤ 8 ∧ t = nI a) :
    SNR n (nI (sz + 1)) (pm_up F sz p) (pm_up S sz c) (pm_up T sz t) (nI (sz + 1)) (pm_up F' sz p) (pm_up S' sz c) (pm_up T' sz t) := by
  refine ⟨sz + 1, by omega, rfl, rfl, fun j hj => ?_⟩
  unfold pm_up
  by_cases a : j = sz
  · simp only [if_pos a]; exact ⟨trivial, trivial, trivial, hp, ht⟩
  · simp only [if_neg a]; exact h j (by omega)
theorem bkr_put {F S F' S' : Nat → Int32} {p c : Int32} (hs : sz < 8) (h : ∀ j, j < sz → F j = F' j ∧ S j = S' j ∧ ∃ p, p < n ∧ F' j = nI p) (hp : ∃ a, a < n ∧ p = nI a) :
    BKR n (nI (sz + 1)) (pm_up F sz p) (pm_up S sz c) (nI (sz + 1)) (pm_up F' sz p) (pm_up S' sz c) := by
  refine ⟨sz + 1, by omega, rfl, rfl, fun j hj => ?_⟩
  unfold pm_up
  by_cases a : j = sz
  · simp only [if_pos a]; exact ⟨trivial, trivial, hp⟩
  · simp only [if_neg a]; exact h j (by omega)
theorem afr_put {F S F' S' : Nat → Int32} {p c y : Int32} (hs : sz < 10) (h : ∀ j, j < sz → F j = F' j ∧ (¬ F' j = 0 → S j = S' j)) (hy : ¬ p = 0 → y = c) :
    AFR (nI (sz + 1)) (pm_up F sz p) (pm_up S sz c) (nI (sz + 1)) (pm_up F' sz p) (pm_up S' sz y) := by
  refine ⟨sz + 1, by omega, rfl, rfl, fun j hj => ?_⟩
  unfold pm_up
  by_cases a : j = sz
  · simp only [if_pos a]; exact ⟨trivial, fun z => (hy z).symm⟩
  · simp only [if_neg a]; exact h j (by omega)
theorem k_sn (s : SNR n (I 4 0) (I 5) (I 6) (I 7) (I 122 37) (I 145) (I 146) (I 147)) (E : ∀ a, (4 ≤ a ∧ a ≤ 7) ∨ (145 ≤ a ∧ a ≤ 147) → I' a = I a) (e : I' 122 37 = I 122 37) : SNR n (I' 4 0) (I' 5) (I' 6) (I' 7) (I' 122 37) (I' 145) (I' 146) (I' 147) := by
  rw [E 4 (by omega), E 5 (by omega), E 6 (by omega), E 7 (by omega), E 145 (by omega), E 146 (by omega), E 147 (by omega), e]; exact s
theorem k_af (s : AFR (I 8 0) (I 9) (I 10) (I 122 41) (I 148) (I 149)) (E : ∀ a, (8 ≤ a ∧ a ≤ 11) ∨ (148 ≤ a ∧ a ≤ 149) → I' a = I a) (e : I' 122 41 = I 122 41) : AFR (I' 8 0) (I' 9) (I' 10) (I' 122 41) (I' 148) (I' 149) := by
  rw [E 8 (by omega), E 9 (by omega), E 10 (by omega), E 148 (by omega), E 149 (by omega), e]; exact s
theorem k_bk (s : BKR n (I 12 0) (I 13) (I 14) (I 122 42) (I 150) (I 151)) (E : ∀ a, (12 ≤ a ∧ a ≤ 15) ∨ (150 ≤ a ∧ a ≤ 151) → I' a = I a) (e : I' 122 42 = I 122 42) : BKR n (I' 12 0) (I' 13) (I' 14) (I' 122 42) (I' 150) (I' 151) := by
  rw [E 12 (by omega), E 13 (by omega), E 14 (by omega), E 150 (by omega), E 151 (by omega), e]; exact s
theorem si_x {p pace t : Int32} (hn : n ≤ 6) (h : siO n sz p pace t = none) : (∃ a, a < n ∧ p = nI a) ∧ ∃ a, a ≤ 8 ∧ t = nI a := by
  unfold siO at h
  split at h
  · cases h
  split at h
  · cases h
  rename_i a1 a2
  exact ⟨hasP_of hn (Decidable.not_not.mp a1), inP_of (m := 8) (by omega) (Decidable.not_not.mp (fun z => a2 (Or.inr z)))⟩
theorem bk_x {p pace : Int32} (hn : n ≤ 6) (h : bkO n sz p pace = none) : ∃ a, a < n ∧ p = nI a := by
  unfold bkO at h
  split at h
  · cases h
  rename_i a1
  exact hasP_of hn (Decidable.not_not.mp a1)
theorem q_see {p pace t : Int32} : PCi X (d + 24) 92 [(0, .ref 0), (1, .int p), (2, .int pace), (3, .int t)] 187 [(0, .ref 122), (1, .int p), (2, .int pace), (3, .int t)] := by
  intro n kc I K L r Q h
  obtain ⟨q, ac, ci, mk⟩ := rel_k r
  obtain ⟨g, v⟩ := rel_g r
  have hn6 := g.1
  obtain ⟨pl, ki, cu, tx, sn, af, bk, im, act, tp, lt⟩ := id r
  obtain ⟨sz, z1, z2, z3, z4⟩ := sn
  refine w_see ci z2 z1 (fun e => h _ _ _ _ (fun Q2 h2 => ?_)) (fun a e1 e => h _ _ _ _ (fun Q2 h2 => ?_)) (fun e1 e I1 b4 b5 b6 b7 b => h _ _ _ _ (fun Q2 h2 => ?_))
  · have hm : ∀ (y : Nat → Int32) a, ¬ a = 4 → pm_up I 4 y a = I a := fun y a ha => if_neg ha
    refine m_see (rg_vq (mw_q (fun a h1 h2 => hm _ a (by omega))) g) (by rw [hm _ 122 (by omega)]; exact z3) z1 (fun _ => ?_) (fun _ ne => absurd e ne) (fun ne => absurd e ne)
    have E : ∀ a, ¬ a = 4 → ¬ a = 122 → pm_up (pm_up I 4 (pm_up (I 4) 0 0)) 122 (pm_up ((pm_up I 4 (pm_up (I 4) 0 0)) 122) 37 0) a = I a := fun a h1 h2 => (if_neg h2).trans (hm _ a h1)
    have ej : ∀ j, ¬ j = 37 → pm_up (pm_up I 4 (pm_up (I 4) 0 0)) 122 (pm_up ((pm_up I 4 (pm_up (I 4) 0 0)) 122) 37 0) 122 j = I 122 j := fun j hj => (if_neg hj)
    exact h2 n kc _ K L (rel_hd r ⟨0, by omega, rfl, rfl, fun j hj => absurd hj (by omega)⟩ (k_af af (fun a ha => E a (by omega) (by omega)) (ej 41 (by omega))) (k_bk bk (fun a ha => E a (by omega) (by omega)) (ej 42 (by omega))) (c_tx tx (by rw [E 2 (by omega) (by omega)]) (E 3 (by omega) (by omega)) (ej 12 (by omega)) (E 129 (by omega) (by omega))) (c_ac act (by rw [E 28 (by omega) (by omega)]) (E 29 (by omega) (by omega)) (ej 69 (by omega)) (E 165 (by omega) (by omega))) (fun a ha => E a (by omega) (by omega)) (fun j hj => ej j (by omega)))
  · refine m_see g z3 z1 (fun e => absurd e e1) (fun b _ e' => ?_) (fun _ e' => ?_)
    · rw [e] at e'; cases e'; exact h2 _ _ _ _ _ r
    · rw [e] at e'; cases e'
  · refine m_see (rg_vq (mw_q (fun a h1 h2 => b a (by omega))) g) (by rw [b 122 (by omega)]; exact z3) z1 (fun z => absurd z e1) (fun b _ e' => ?_) (fun _ _ h5 I2 c122 c5 c6 c7 c => ?_)
    · rw [e] at e'; cases e'
    rw [b 122 (by omega)] at c122
    rw [b 145 (by omega)] at c5
    rw [b 146 (by omega)] at c6
    rw [b 147 (by omega)] at c7
    have E : ∀ a, (a < 4 ∨ (7 < a ∧ a < 122) ∨ (122 < a ∧ a < 145) ∨ 147 < a) → I2 a = I a := fun a ha => (c a (by omega) (by omega) (by omega) (by omega)).trans (b a (by omega))
    have cl : ∀ a, a < 122 → I2 a = I1 a := fun a ha => c a (by omega) (by omega) (by omega) (by omega)
    have ej : ∀ j, ¬ j = 37 → I2 122 j = I 122 j := fun j hj => by rw [c122]; exact if_neg hj
    obtain ⟨x1, x2⟩ := si_x hn6 e
    refine h2 n kc _ K L (rel_hd r ?_ (k_af af (fun a ha => E a (by omega)) (ej 41 (by omega))) (k_bk bk (fun a ha => E a (by omega)) (ej 42 (by omega))) (c_tx tx (by rw [E 2 (by omega)]) (E 3 (by omega)) (ej 12 (by omega)) (E 129 (by omega))) (c_ac act (by rw [E 28 (by omega)]) (E 29 (by omega)) (ej 69 (by omega)) (E 165 (by omega))) (fun a ha => E a (by omega)) (fun j hj => ej j (by omega)))
    rw [cl 4 (by omega), cl 5 (by omega), cl 6 (by omega), cl 7 (by omega), b4, b5, b6, b7, c122, c5, c6, c7]
    exact snr_put h5 z4 x1 x2
theorem q_book {p pace : Int32} : PCi X (d + 24) 99 [(0, .ref 0), (1, .int p), (2, .int pace)] 197 [(0, .ref 122), (1, .int p), (2, .int pace)] := by
  intro n kc I K L r Q h
  obtain ⟨q, ac, ci, mk⟩ := rel_k r
  obtain ⟨g, v⟩ := rel_g r
  have hn6 := g.1
  obtain ⟨pl, ki, cu, tx, sn, af, bk, im, act, tp, lt⟩ := id r
  obtain ⟨sz, z1, z2, z3, z4⟩ := bk
  refine w_book ci z2 z1 (fun e => h _ _ _ _ (fun Q2 h2 => ?_)) (fun a e1 e => h _ _ _ _ (fun Q2 h2 => ?_)) (fun e1 e I1 b4 b5 b6 b => h _ _ _ _ (fun Q2 h2 => ?_))
  · have hm : ∀ (y : Nat → Int32) a, ¬ a = 12 → pm_up I 12 y a = I a := fun y a ha => if_neg ha
    refine m_book (rg_vq (mw_q (fun a h1 h2 => hm _ a (by omega))) g) (by rw [hm _ 122 (by omega)]; exact z3) z1 (fun _ => ?_) (fun _ ne => absurd e ne) (fun ne => absurd e ne)
    have E : ∀ a, ¬ a = 12 → ¬ a = 122 → pm_up (pm_up I 12 (pm_up (I 12) 0 0)) 122 (pm_up ((pm_up I 12 (pm_up (I 12) 0 0)) 122) 42 0) a = I a := fun a h1 h2 => (if_neg h2).trans (hm _ a h1)
    have ej : ∀ j, ¬ j = 42 → pm_up (pm_up I 12 (pm_up (I 12) 0 0)) 122 (pm_up ((pm_up I 12 (pm_up (I 12) 0 0)) 122) 42 0) 122 j = I 122 j := fun j hj => (if_neg hj)
    exact h2 n kc _ K L (rel_hd r (k_sn sn (fun a ha => E a (by omega) (by omega)) (ej 37 (by omega))) (k_af af (fun a ha => E a (by omega) (by omega)) (ej 41 (by omega))) ⟨0, by omega, rfl, rfl, fun j hj => absurd hj (by omega)⟩ (c_tx tx (by rw [E 2 (by omega) (by omega)]) (E 3 (by omega) (by omega)) (ej 12 (by omega)) (E 129 (by omega) (by omega))) (c_ac act (by rw [E 28 (by omega) (by omega)]) (E 29 (by omega) (by omega)) (ej 69 (by omega)) (E 165 (by omega) (by omega))) (fun a ha => E a (by omega) (by omega)) (fun j hj => ej j (by omega)))
  · refine m_book g z3 z1 (fun e => absurd e e1) (fun b _ e' => ?_) (fun _ e' => ?_)
    · rw [e] at e'; cases e'; exact h2 _ _ _ _ _ r
    · rw [e] at e'; cases e'
  · refine m_book (rg_vq (mw_q (fun a h1 h2 => b a (by omega))) g) (by rw [b 122 (by omega)]; exact z3) z1 (fun z => absurd z e1) (fun b _ e' => ?_) (fun _ _ h5 I2 c122 c5 c6 c => ?_)
    · rw [e] at e'; cases e'
    rw [b 122 (by omega)] at c122
    rw [b 150 (by omega)] at c5
    rw [b 151 (by omega)] at c6
    have E : ∀ a, (a < 12 ∨ (15 < a ∧ a < 122) ∨ (122 < a ∧ a < 150) ∨ 151 < a) → I2 a = I a := fun a ha => (c a (by omega) (by omega) (by omega)).trans (b a (by omega))
    have cl : ∀ a, a < 122 → I2 a = I1 a := fun a ha => c a (by omega) (by omega) (by omega)
    have ej : ∀ j, ¬ j = 42 → I2 122 j = I 122 j := fun j hj => by rw [c122]; exact if_neg hj
    have x1 := bk_x hn6 e
    refine h2 n kc _ K L (rel_hd r (k_sn sn (fun a ha => E a (by omega)) (ej 37 (by omega))) (k_af af (fun a ha => E a (by omega)) (ej 41 (by omega))) ?_ (c_tx tx (by rw [E 2 (by omega)]) (E 3 (by omega)) (ej 12 (by omega)) (E 129 (by omega))) (c_ac act (by rw [E 28 (by omega)]) (E 29 (by omega)) (ej 69 (by omega)) (E 165 (by omega))) (fun a ha => E a (by omega)) (fun j hj => ej j (by omega)))
    rw [cl 12 (by omega), cl 13 (by omega), cl 14 (by omega), b4, b5, b6, c122, c5, c6]
    exact bkr_put h5 z4 x1
theorem q_afternoon {what p : Int32} : PCi X (d + 24) 97 [(0, .ref 0), (1, .int what), (2, .int p)] 195 [(0, .ref 122), (1, .int what), (2, .int p)] := by
  intro n kc I K L r Q h
  obtain ⟨q, ac, ci, mk⟩ := rel_k r
  obtain ⟨g, v⟩ := rel_g r
  have hn6 := g.1
  obtain ⟨pl, ki, cu, tx, sn, af, bk, im, act, tp, lt⟩ := id r
  obtain ⟨sz, z1, z2, z3, z4⟩ := af
  refine w_afternoon ci z2 z1 (fun e => h _ _ _ _ (fun Q2 h2 => ?_)) (fun a e1 e => h _ _ _ _ (fun Q2 h2 => ?_)) (fun e1 e I1 b4 b5 b6 b => h _ _ _ _ (fun Q2 h2 => ?_))
  · have hm : ∀ (y : Nat → Int32) a, ¬ a = 8 → pm_up I 8 y a = I a := fun y a ha => if_neg ha
    refine m_afternoon (rg_vq (mw_q (fun a h1 h2 => hm _ a (by omega))) g) (by rw [hm _ 122 (by omega)]; exact z3) z1 (fun _ => ?_) (fun _ ne => absurd e ne) (fun ne => absurd e ne)
    have E : ∀ a, ¬ a = 8 → ¬ a = 122 → pm_up (pm_up I 8 (pm_up (I 8) 0 0)) 122 (pm_up ((pm_up I 8 (pm_up (I 8) 0 0)) 122) 41 0) a = I a := fun a h1 h2 => (if_neg h2).trans (hm _ a h1)
    have ej : ∀ j, ¬ j = 41 → pm_up (pm_up I 8 (pm_up (I 8) 0 0)) 122 (pm_up ((pm_up I 8 (pm_up (I 8) 0 0)) 122) 41 0) 122 j = I 122 j := fun j hj => (if_neg hj)
    exact h2 n kc _ K L (rel_hd r (k_sn sn (fun a ha => E a (by omega) (by omega)) (ej 37 (by omega))) ⟨0, by omega, rfl, rfl, fun j hj => absurd hj (by omega)⟩ (k_bk bk (fun a ha => E a (by omega) (by omega)) (ej 42 (by omega))) (c_tx tx (by rw [E 2 (by omega) (by omega)]) (E 3 (by omega) (by omega)) (ej 12 (by omega)) (E 129 (by omega) (by omega))) (c_ac act (by rw [E 28 (by omega) (by omega)]) (E 29 (by omega) (by omega)) (ej 69 (by omega)) (E 165 (by omega) (by omega))) (fun a ha => E a (by omega) (by omega)) (fun j hj => ej j (by omega)))
  · refine m_afternoon g z3 z1 (fun e => absurd e e1) (fun b _ e' => ?_) (fun _ e' => ?_)
    · rw [e] at e'; cases e'; exact h2 _ _ _ _ _ r
    · rw [e] at e'; cases e'
  · refine m_afternoon (rg_vq (mw_q (fun a h1 h2 => b a (by omega))) g) (by rw [b 122 (by omega)]; exact z3) z1 (fun z => absurd z e1) (fun b _ e' => ?_) (fun _ _ h5 I2 y hy c122 c5 c6 c => ?_)
    · rw [e] at e'; cases e'
    rw [b 122 (by omega)] at c122
    rw [b 148 (by omega)] at c5
    rw [b 149 (by omega)] at c6
    have E : ∀ a, (a < 8 ∨ (11 < a ∧ a < 122) ∨ (122 < a ∧ a < 148) ∨ 149 < a) → I2 a = I a := fun a ha => (c a (by omega) (by omega) (by omega)).trans (b a (by omega))
    have cl : ∀ a, a < 122 → I2 a = I1 a := fun a ha => c a (by omega) (by omega) (by omega)
    have ej : ∀ j, ¬ j = 41 → I2 122 j = I 122 j := fun j hj => by rw [c122]; exact if_neg hj
    refine h2 n kc _ K L (rel_hd r (k_sn sn (fun a ha => E a (by omega)) (ej 37 (by omega))) ?_ (k_bk bk (fun a ha => E a (by omega)) (ej 42 (by omega))) (c_tx tx (by rw [E 2 (by omega)]) (E 3 (by omega)) (ej 12 (by omega)) (E 129 (by omega))) (c_ac act (by rw [E 28 (by omega)]) (E 29 (by omega)) (ej 69 (by omega)) (E 165 (by omega))) (fun a ha => E a (by omega)) (fun j hj => ej j (by omega)))
    rw [cl 8 (by omega), cl 9 (by omega), cl 10 (by omega), b4, b5, b6, c122, c5, c6]
    exact afr_put h5 z4 hy
theorem q_feed {x : Int32} : PCi X (d + 24) 80 [(0, .ref 0), (1, .int x)] 133 [(0, .ref 122), (1, .int x)] := by
  intro n kc I K L r Q h
  obtain ⟨pl, ki, cu, tx, sn, af, bk, im, act, tp, lt⟩ := id r
  obtain ⟨s, s1, s2, s3, s4⟩ := tx
  refine w_feed s2 s1 (fun a e => h _ _ _ _ (fun Q2 h2 => ?_)) (fun e hs I1 b2 b3 b => h _ _ _ _ (fun Q2 h2 => ?_))
  · refine m_feed s3 s1 (fun b e' => ?_) (fun e' => ?_)
    · rw [e] at e'; cases e'; exact h2 _ _ _ _ _ r
    · rw [e] at e'; cases e'
  · refine m_feed (by rw [b 122 (by omega) (by omega)]; exact s3) s1 (fun b e' => ?_) (fun _ _ I2 c122 c129 c => ?_)
    · rw [e] at e'; cases e'
    rw [b 122 (by omega) (by omega)] at c122
    rw [b 129 (by omega) (by omega)] at c129
    have E : ∀ a, ¬ a = 2 → ¬ a = 3 → ¬ a = 122 → ¬ a = 129 → I2 a = I a := fun a h1 h2 h3 h4 => (c a h3 h4).trans (b a h1 h2)
    have ej : ∀ j, ¬ j = 12 → I2 122 j = I 122 j := fun j hj => by rw [c122]; exact if_neg hj
    refine h2 n kc _ K L (rel_hd r (k_sn sn (fun a ha => E a (by omega) (by omega) (by omega) (by omega)) (ej 37 (by omega))) (k_af af (fun a ha => E a (by omega) (by omega) (by omega) (by omega)) (ej 41 (by omega))) (k_bk bk (fun a ha => E a (by omega) (by omega) (by omega) (by omega)) (ej 42 (by omega))) ⟨s + 1, by omega, ?_, ?_, fun j hj => ?_⟩ (c_ac act (by rw [E 28 (by omega) (by omega) (by omega) (by omega)]) (E 29 (by omega) (by omega) (by omega) (by omega)) (ej 69 (by omega)) (E 165 (by omega) (by omega) (by omega) (by omega))) (fun a ha => E a (by omega) (by omega) (by omega) (by omega)) (fun j hj => ej j (by omega)))
    · rw [c 2 (by omega) (by omega), b2]; rfl
    · rw [c122]; rfl
    · rw [c 3 (by omega) (by omega), b3, c129]
      unfold pm_up
      by_cases a : j = s
      · simp only [if_pos a]
      · simp only [if_neg a]; exact s4 j (by omega)
theorem in_2 {a : Nat} (h : a < 3) : inP (nI a) 0 2 := by
  obtain rfl | rfl | rfl : a = 0 ∨ a = 1 ∨ a = 2 := by omega
  all_goals decide
theorem q_act {p a x : Int32} : PCi X (d + 24) 104 [(0, .ref 0), (1, .int p), (2, .int a), (3, .int x)] 210 [(0, .ref 122), (1, .int p), (2, .int a), (3, .int x)] := by
  intro n kc I K L r Q h
  obtain ⟨q, ac, ci, mk⟩ := rel_k r
  obtain ⟨g, v⟩ := rel_g r
  have hn6 := g.1
  obtain ⟨pl, ki, cu, tx, sn, af, bk, im, act, tp, lt⟩ := id r
  have out : ∀ (I1 I2 : pm_I) (l : List Int32), l.length < 1000 → TRC I1 l → (∀ c, c ≠ 28 → c ≠ 29 → I1 c = I c) → TRM I2 l → FA I2 I1 → REL n kc I2 K L I2 L := by
    intro I1 I2 l hl t1 b t2 f
    have E : ∀ a, ¬ a = 28 → ¬ a = 29 → ¬ a = 122 → ¬ a = 165 → I2 a = I a := fun a h1 h2 h3 h4 => (f.1 a h3 h4).trans (b a h1 h2)
    have ej : ∀ j, ¬ j = 69 → I2 122 j = I 122 j := fun j hj => (f.2 j hj).trans (by rw [b 122 (by omega) (by omega)])
    refine rel_hd r (k_sn sn (fun a ha => E a (by omega) (by omega) (by omega) (by omega)) (ej 37 (by omega))) (k_af af (fun a ha => E a (by omega) (by omega) (by omega) (by omega)) (ej 41 (by omega))) (k_bk bk (fun a ha => E a (by omega) (by omega) (by omega) (by omega)) (ej 42 (by omega))) (c_tx tx (by rw [E 2 (by omega) (by omega) (by omega) (by omega)]) (E 3 (by omega) (by omega) (by omega) (by omega)) (ej 12 (by omega)) (E 129 (by omega) (by omega) (by omega) (by omega))) ⟨l, hl, ?_, t2⟩ (fun a ha => E a (by omega) (by omega) (by omega) (by omega)) (fun j hj => ej j (by omega))
    unfold TRC at t1 ⊢
    rw [f.1 28 (by omega) (by omega), f.1 29 (by omega) (by omega)]
    exact t1
  have hk : ∀ i, i < n → ∃ kd, kd < 7 ∧ I 38 i = nI kd := fun i hi => by
    obtain ⟨⟨c, c1, c2⟩, -⟩ := g.2.2.2.1 i hi
    exact ⟨c, c1, (v.2.1 1 i (by omega) (by omega) (by omega)).trans c2⟩
  refine w_act ci hk (fun e I1 t1 b => h _ _ _ _ (fun Q2 h2 => ?_)) (fun i aa kd hi ep ha ea hkd ek I1 t1 b => h _ _ _ _ (fun Q2 h2 => ?_))
  · have g1 := rg_vq (mw_q (fun a h1 h2 => b a (by omega) (by omega))) g
    refine m_act g1 (fun _ I2 t2 f => h2 _ _ _ _ _ (out I1 I2 [] (by decide) t1 b t2 f)) (fun i aa kd hi ep ha ea => absurd ⟨by rw [ep]; exact hasP_nI hn6 hi, by rw [ea]; exact in_2 ha⟩ e)
  · have g1 := rg_vq (mw_q (fun a h1 h2 => b a (by omega) (by omega))) g
    subst ep
    subst ea
    refine m_act g1 (fun e => absurd ⟨hasP_nI hn6 hi, in_2 ha⟩ e) (fun i' aa' kd' hi' ep' ha' ea' hkd' ek' I2 t2 f => ?_)
    have ei : i = i' := (nI_eq (by omega) (by omega)).mp ep'
    have eaa : aa = aa' := (nI_eq (by omega) (by omega)).mp ea'
    subst ei
    subst eaa
    rw [b 123 (by omega) (by omega)] at ek'
    have e1 : I 38 i = I 123 i := v.2.1 1 i (by omega) (by omega) (by omega)
    have ekk : kd = kd' := (nI_eq (by omega) (by omega)).mp (ek.symm.trans (e1.trans ek'))
    subst ekk
    have e2 : I 39 i = I 124 i := v.2.1 2 i (by omega) (by omega) (by omega)
    rw [ma_V hkd ha, e2] at h2
    rw [ma_T hkd ha] at t1
    rw [b 124 (by omega) (by omega)]
    exact h2 _ _ _ _ _ (out I1 I2 _ (by have := ma_len kd hkd aa ha; omega) t1 b t2 f)
end HAND
