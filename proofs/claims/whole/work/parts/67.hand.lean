/-! BOTH SIDES: what is told by hand: rows, text, acts -/
section HAND
variable {X : pm_X} {d n kc sz : Nat} {I I' : pm_I} {K K' : Nat → Nat} {L : pm_L}
theorem snr_put {F S T F' S' T' : Nat → Int32} {p c t : Int32} (hs : sz < 5) (h : ∀ j, j < sz → F j = F' j ∧ S j = S' j ∧ T j = T' j ∧ (∃ p, p < n ∧ F' j = nI p) ∧ ∃ t, t ≤ 8 ∧ T' j = nI t) (hp : ∃ a, a < n ∧ p = nI a) (ht : ∃ a, a ≤ 8 ∧ t = nI a) :
    SNR n (nI (sz + 1)) (pm_up F sz p) (pm_up S sz c) (pm_up T sz t) (nI (sz + 1)) (pm_up F' sz p) (pm_up S' sz c) (pm_up T' sz t) := by
  refine ⟨sz + 1, by omega, rfl, rfl, fun j hj => ?_⟩
  unfold pm_up
  by_cases a : j = sz
  · simp only [if_pos a]; exact ⟨trivial, trivial, trivial, hp, ht⟩
  · simp only [if_neg a]; exact h j (by omega)
theorem bkr_put {F S F' S' : Nat → Int32} {p c : Int32} (hs : sz < 8) (h : ∀ j, j < sz → F j = F' j ∧ S j = S' j ∧ ∃ p, p < n ∧ F' j = nI p) (hp : ∃ a, a < n ∧ p = nI a) :
    BKR n (nI (sz + 1)) (pm_up F sz p) (pm_up S sz c) (nI (sz + 1)) (pm_up F' sz p) (pm_up S' sz c) := by
  refine ⟨sz + 1, by omega, rfl, rfl, fun j hj => ?_⟩
  unfold pm_up
  by_cases a : j = sz
  · simp only [if_pos a]; exact ⟨trivial, trivial, hp⟩
  · simp only [if_neg a]; exact h j (by omega)
theorem afr_put {F S F' S' : Nat → Int32} {p c y : Int32} (hs : sz < 10) (h : ∀ j, j < sz → F j = F' j ∧ (¬ F' j = 0 → S j = S' j)) (hy : ¬ p = 0 → y = c) :
    AFR (nI (sz + 1)) (pm_up F sz p) (pm_up S sz c) (nI (sz + 1)) (pm_up F' sz p) (pm_up S' sz y) := by
  refine ⟨sz + 1, by omega, rfl, rfl, fun j hj => ?_⟩
  unfold pm_up
  by_cases a : j = sz
  · simp only [if_pos a]; exact ⟨trivial, fun z => (hy z).symm⟩
  · simp only [if_neg a]; exact h j (by omega)
theorem k_sn (s : SNR n (I 4 0) (I 5) (I 6) (I 7) (I 122 37) (I 145) (I 146) (I 147)) (E : ∀ a, (4 ≤ a ∧ a ≤ 7) ∨ (145 ≤ a ∧ a ≤ 147) → I' a = I a) (e : I' 122 37 = I 122 37) : SNR n (I' 4 0) (I' 5) (I' 6) (I' 7) (I' 122 37) (I' 145) (I' 146) (I' 147) := by
  rw [E 4 (by omega), E 5 (by omega), E 6 (by omega), E 7 (by omega), E 145 (by omega), E 146 (by omega), E 147 (by omega), e]; exact s
theorem k_af (s : AFR (I 8 0) (I 9) (I 10) (I 122 41) (I 148) (I 149)) (E : ∀ a, (8 ≤ a ∧ a ≤ 11) ∨ (148 ≤ a ∧ a ≤ 149) → I' a = I a) (e : I' 122 41 = I 122 41) : AFR (I' 8 0) (I' 9) (I' 10) (I' 122 41) (I' 148) (I' 149) := by
  rw [E 8 (by omega), E 9 (by omega), E 10 (by omega), E 148 (by omega), E 149 (by omega), e]; exact s
theorem k_bk (s : BKR n (I 12 0) (I 13) (I 14) (I 122 42) (I 150) (I 151)) (E : ∀ a, (12 ≤ a ∧ a ≤ 15) ∨ (150 ≤ a ∧ a ≤ 151) → I' a = I a) (e : I' 122 42 = I 122 42) : BKR n (I' 12 0) (I' 13) (I' 14) (I' 122 42) (I' 150) (I' 151) := by
  rw [E 12 (by omega), E 13 (by omega), E 14 (by omega), E 150 (by omega), E 151 (by omega), e]; exact s
theorem si_x {p pace t : Int32} (hn : n ≤ 6) (h : siO n sz p pace t = none) : (∃ a, a < n ∧ p = nI a) ∧ ∃ a, a ≤ 8 ∧ t = nI a := by
  unfold siO at h
  split at h
  · cases h
  split at h
  · cases h
  rename_i a1 a2
  exact ⟨hasP_of hn (Decidable.not_not.mp a1), inP_of (m := 8) (by omega) (Decidable.not_not.mp (fun z => a2 (Or.inr z)))⟩
theorem bk_x {p pace : Int32} (hn : n ≤ 6) (h : bkO n sz p pace = none) : ∃ a, a < n ∧ p = nI a := by
  unfold bkO at h
  split at h
  · cases h
  rename_i a1
  exact hasP_of hn (Decidable.not_not.mp a1)
theorem q_see {p pace t : Int32} : PCi X (d + 24) 92 [(0, .ref 0), (1, .int p), (2, .int pace), (3, .int t)] 187 [(0, .ref 122), (1, .int p), (2, .int pace), (3, .int t)] := by
  intro n kc I K L r Q h
  obtain ⟨q, ac, ci, mk⟩ := rel_k r
  obtain ⟨g, v⟩ := rel_g r
  have hn6 := g.1
  obtain ⟨pl, ki, cu, tx, sn, af, bk, im, act, tp, lt⟩ := id r
  obtain ⟨sz, z1, z2, z3, z4⟩ := sn
  refine w_see ci z2 z1 (fun e => h _ _ _ _ (fun Q2 h2 => ?_)) (fun a e1 e => h _ _ _ _ (fun Q2 h2 => ?_)) (fun e1 e I1 b4 b5 b6 b7 b => h _ _ _ _ (fun Q2 h2 => ?_))
  · have hm : ∀ (y : Nat → Int32) a, ¬ a = 4 → pm_up I 4 y a = I a := fun y a ha => if_neg ha
    refine m_see (rg_vq (mw_q (fun a h1 h2 => hm _ a (by omega))) g) (by rw [hm _ 122 (by omega)]; exact z3) z1 (fun _ => ?_) (fun _ ne => absurd e ne) (fun ne => absurd e ne)
    have E : ∀ a, ¬ a = 4 → ¬ a = 122 → pm_up (pm_up I 4 (pm_up (I 4) 0 0)) 122 (pm_up ((pm_up I 4 (pm_up (I 4) 0 0)) 122) 37 0) a = I a := fun a h1 h2 => (if_neg h2).trans (hm _ a h1)
    have ej : ∀ j, ¬ j = 37 → pm_up (pm_up I 4 (pm_up (I 4) 0 0)) 122 (pm_up ((pm_up I 4 (pm_up (I 4) 0 0)) 122) 37 0) 122 j = I 122 j := fun j hj => (if_neg hj)
    exact h2 n kc _ K L (rel_hd r ⟨0, by omega, rfl, rfl, fun j hj => absurd hj (by omega)⟩ (k_af af (fun a ha => E a (by omega) (by omega)) (ej 41 (by omega))) (k_bk bk (fun a ha => E a (by omega) (by omega)) (ej 42 (by omega))) (c_tx tx (by rw [E 2 (by omega) (by omega)]) (E 3 (by omega) (by omega)) (ej 12 (by omega)) (E 129 (by omega) (by omega))) (c_ac act (by rw [E 28 (by omega) (by omega)]) (E 29 (by omega) (by omega)) (ej 69 (by omega)) (E 165 (by omega) (by omega))) (fun a ha => E a (by omega) (by omega)) (fun j hj => ej j (by omega)))
  · refine m_see g z3 z1 (fun e => absurd e e1) (fun b _ e' => ?_) (fun _ e' => ?_)
    · rw [e] at e'; cases e'; exact h2 _ _ _ _ _ r
    · rw [e] at e'; cases e'
  · refine m_see (rg_vq (mw_q (fun a h1 h2 => b a (by omega))) g) (by rw [b 122 (by omega)]; exact z3) z1 (fun z => absurd z e1) (fun b _ e' => ?_) (fun _ _ h5 I2 c122 c5 c6 c7 c => ?_)
    · rw [e] at e'; cases e'
    rw [b 122 (by omega)] at c122
    rw [b 145 (by omega)] at c5
    rw [b 146 (by omega)] at c6
    rw [b 147 (by omega)] at c7
    have E : ∀ a, (a < 4 ∨ (7 < a ∧ a < 122) ∨ (122 < a ∧ a < 145) ∨ 147 < a) → I2 a = I a := fun a ha => (c a (by omega) (by omega) (by omega) (by omega)).trans (b a (by omega))
    have cl : ∀ a, a < 122 → I2 a = I1 a := fun a ha => c a (by omega) (by omega) (by omega) (by omega)
    have ej : ∀ j, ¬ j = 37 → I2 122 j = I 122 j := fun j hj => by rw [c122]; exact if_neg hj
    obtain ⟨x1, x2⟩ := si_x hn6 e
    refine h2 n kc _ K L (rel_hd r ?_ (k_af af (fun a ha => E a (by omega)) (ej 41 (by omega))) (k_bk bk (fun a ha => E a (by omega)) (ej 42 (by omega))) (c_tx tx (by rw [E 2 (by omega)]) (E 3 (by omega)) (ej 12 (by omega)) (E 129 (by omega))) (c_ac act (by rw [E 28 (by omega)]) (E 29 (by omega)) (ej 69 (by omega)) (E 165 (by omega))) (fun a ha => E a (by omega)) (fun j hj => ej j (by omega)))
    rw [cl 4 (by omega), cl 5 (by omega), cl 6 (by omega), cl 7 (by omega), b4, b5, b6, b7, c122, c5, c6, c7]
    exact snr_put h5 z4 x1 x2
end HAND
