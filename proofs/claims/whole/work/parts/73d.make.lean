section MAKE5
variable {Ua Ub : Nat → Option Nat} {X : pm_X} {d : Nat} {I : pm_I} {L : pm_L} {R : pm_R} {Q : pm_Q} {ro : Nat → Option Nat} {io : Nat → Int32} {m : Nat}
def B0 (Ua Ub : Nat → Option Nat) (m : Nat) (ro : Nat → Option Nat) (io : Nat → Int32) (I : pm_I) (L : pm_L) (R : pm_R) : Prop := BLD Ua Ub 0 0 m ro io (fun _ _ => 0) (fun _ _ => 0) (fun _ _ => none) I L R
theorem b0_new (q : B0 Ua Ub m ro io I L R) : CN Ua Ub 0 m (pm_up I m fun _ => 0) (pm_up L m fun _ => 0) (pm_up R m fun _ => none) := by
  obtain ⟨⟨c1, c2⟩, -, -⟩ := q
  exact cn_new ⟨fun a h1 h2 h3 => c1 a h1 h2 h2 h3, c2⟩
theorem b0_call {m1 : Nat} {I1 : pm_I} {L1 : pm_L} {R1 : pm_R} (hm : 1 ≤ m) (q : B0 Ua Ub m ro io I L R) (c : CF Ua Ub 0 m1 I1 L1 R1) (k : ∀ a, a = 0 ∨ a = 0 → I1 a = pm_up I m (fun _ => 0) a ∧ L1 a = pm_up L m (fun _ => 0) a ∧ R1 a = pm_up R m (fun _ => none) a) : B0 Ua Ub m1 ro io I1 L1 R1 := by
  obtain ⟨-, ⟨c3, c4, c5⟩, -⟩ := q
  obtain ⟨k1, k2, k3⟩ := k 0 (Or.inl rfl)
  have n : ¬ 0 = m := by omega
  rw [show pm_up I m (fun _ => 0) 0 = I 0 from if_neg n] at k1
  rw [show pm_up L m (fun _ => 0) 0 = L 0 from if_neg n] at k2
  rw [show pm_up R m (fun _ => none) 0 = R 0 from if_neg n] at k3
  exact ⟨⟨fun a h1 h2 _ h3 => c.1 a h1 h2 h3, c.2⟩, ⟨k1.trans c3, k2.trans c4, k3.trans c5⟩, fun a h1 h2 => absurd (by omega) h2⟩
theorem b0_r {F : Nat} {v : Option Nat} (hm : 1 ≤ m) (q : B0 Ua Ub m ro io I L R) : B0 Ua Ub m (pm_up ro F v) io I L (pm_up R 0 (pm_up (R 0) F v)) := mk_r (by omega) q
theorem b0_1 {j : Nat} {v : Option Nat} (hm : 1 < m) (q : B0 Ua Ub m ro io I L R) : B0 (pm_up Ua j v) Ub m ro io I L (pm_up R 1 (pm_up (R 1) j v)) := by
  obtain ⟨⟨c1, c2⟩, ⟨c3, c4, c5⟩, c6⟩ := q
  refine ⟨⟨fun a h1 h2 h3 h4 => ?_, fun a h => ?_⟩, ⟨c3, c4, ?_⟩, fun a h1 h2 => absurd (by omega) h2⟩
  · obtain ⟨g1, g2, g3⟩ := c1 a h1 h2 h3 h4
    refine ⟨g1, g2, ?_⟩
    by_cases z : a = 1
    · subst z
      rw [show TT (pm_up Ua j v) Ub 1 = pm_up Ua j v from rfl, show pm_up R 1 (pm_up (R 1) j v) 1 = pm_up (R 1) j v from rfl, g3]
      rfl
    · rw [show pm_up R 1 (pm_up (R 1) j v) a = R a from if_neg z, g3]
      simp [TT, pm_up, z]
  · rw [show pm_up R 1 (pm_up (R 1) j v) a = R a from if_neg (by omega)]
    exact c2 a h
  · exact c5
theorem b0_30 {j : Nat} {v : Option Nat} (hm : 30 < m) (q : B0 Ua Ub m ro io I L R) : B0 Ua (pm_up Ub j v) m ro io I L (pm_up R 30 (pm_up (R 30) j v)) := by
  obtain ⟨⟨c1, c2⟩, ⟨c3, c4, c5⟩, c6⟩ := q
  refine ⟨⟨fun a h1 h2 h3 h4 => ?_, fun a h => ?_⟩, ⟨c3, c4, ?_⟩, fun a h1 h2 => absurd (by omega) h2⟩
  · obtain ⟨g1, g2, g3⟩ := c1 a h1 h2 h3 h4
    refine ⟨g1, g2, ?_⟩
    by_cases z : a = 30
    · subst z
      rw [show TT Ua (pm_up Ub j v) 30 = pm_up Ub j v from rfl, show pm_up R 30 (pm_up (R 30) j v) 30 = pm_up (R 30) j v from rfl, g3]
      rfl
    · rw [show pm_up R 30 (pm_up (R 30) j v) a = R a from if_neg z, g3]
      simp [TT, pm_up, z]
  · rw [show pm_up R 30 (pm_up (R 30) j v) a = R a from if_neg (by omega)]
    exact c2 a h
  · exact c5
theorem k_x0 {a : Nat} (h : a = 31 ∨ (74 ≤ a ∧ a < 110 ∧ (a - 74) % 6 = 0)) : pm_up (pm_up (pm_up (pm_up (pm_up (fun _ => (0 : Int32)) 0 2) 1 60) 2 5) 3 0) 6 0 = I0 a := by
  funext j
  unfold I0
  rw [if_pos h]
  match j with
  | 0 => rfl
  | 1 => rfl
  | 2 => rfl
  | 3 => rfl
  | 4 => rfl
  | 5 => rfl
  | 6 => rfl
  | n + 7 => simp [pm_up]
theorem t_x0 {a : Nat} (h : 110 ≤ a ∧ a < 122 ∧ a % 2 = 0) : I0 a = pm_up (pm_up (fun _ => (0 : Int32)) 0 (-1)) 1 0 := by
  funext j
  unfold I0
  rw [if_neg (by omega)]
  match j with
  | 0 => rw [if_pos ⟨h.1, h.2.1, h.2.2, rfl⟩]; rfl
  | n + 1 => 
    rw [if_neg (by omega), if_neg (by omega), if_neg (by omega), if_neg (by omega)]
    unfold pm_up
    by_cases z : n + 1 = 1
    · rw [if_pos z]
    · rw [if_neg z]; rfl
theorem b0_ex (hm : 1 ≤ m) (q : B0 Ua Ub m ro io I L R) : CF Ua Ub m (m + 1) (pm_up I m fun _ => 0) (pm_up L m fun _ => 0) (pm_up R m fun _ => none) := by
  obtain ⟨⟨c1, c2⟩, -, -⟩ := q
  refine ⟨fun a h1 h2 h3 => ?_, fun a h => ?_⟩
  · simp [pm_up, h2]
    exact c1 a h1 (by omega) (by omega) (by omega)
  · have : ¬ a = m := by omega
    simp [pm_up, this]
    exact c2 a (by omega)
theorem yy_61 : pm_up (pm_up (fun _ => none) 0 (some 37)) 1 (some 62) = RR K0 61 := by
  funext k
  match k with
  | 0 => rfl
  | 1 => rfl
  | 2 => rfl
  | 3 => rfl
  | 4 => rfl
  | 5 => rfl
  | 6 => rfl
  | 7 => rfl
  | 8 => rfl
  | 9 => rfl
  | 10 => rfl
  | 11 => rfl
  | 12 => rfl
  | 13 => rfl
  | 14 => rfl
  | 15 => rfl
  | n + 16 =>
    unfold RR
    rw [if_neg (by omega), show RRl.getD 61 [] = [(0, 37), (1, 62)] from rfl]
    simp [pm_up, List.lookup]
theorem yy_1 : pm_up (pm_up (pm_up (pm_up (pm_up (pm_up (fun _ => none) 0 (some 74)) 1 (some 80)) 2 (some 86)) 3 (some 92)) 4 (some 98)) 5 (some 104) = RR K0 1 := by
  funext k
  match k with
  | 0 => rfl
  | 1 => rfl
  | 2 => rfl
  | 3 => rfl
  | 4 => rfl
  | 5 => rfl
  | 6 => rfl
  | 7 => rfl
  | 8 => rfl
  | 9 => rfl
  | 10 => rfl
  | 11 => rfl
  | 12 => rfl
  | 13 => rfl
  | 14 => rfl
  | 15 => rfl
  | n + 16 =>
    unfold RR
    rw [if_neg (by omega), show RRl.getD 1 [] = [(0, 74), (1, 80), (2, 86), (3, 92), (4, 98), (5, 104)] from rfl]
    simp [pm_up, List.lookup]
theorem yy_30 : pm_up (pm_up (pm_up (pm_up (pm_up (pm_up (fun _ => none) 0 (some 110)) 1 (some 112)) 2 (some 114)) 3 (some 116)) 4 (some 118)) 5 (some 120) = RR K0 30 := by
  funext k
  match k with
  | 0 => rfl
  | 1 => rfl
  | 2 => rfl
  | 3 => rfl
  | 4 => rfl
  | 5 => rfl
  | 6 => rfl
  | 7 => rfl
  | 8 => rfl
  | 9 => rfl
  | 10 => rfl
  | 11 => rfl
  | 12 => rfl
  | 13 => rfl
  | 14 => rfl
  | 15 => rfl
  | n + 16 =>
    unfold RR
    rw [if_neg (by omega), show RRl.getD 30 [] = [(0, 110), (1, 112), (2, 114), (3, 116), (4, 118), (5, 120)] from rfl]
    simp [pm_up, List.lookup]
theorem yy_2 : pm_up (fun _ => none) 2 (some 3) = RR K0 2 := by
  funext k
  match k with
  | 0 => rfl
  | 1 => rfl
  | 2 => rfl
  | 3 => rfl
  | 4 => rfl
  | 5 => rfl
  | 6 => rfl
  | 7 => rfl
  | 8 => rfl
  | 9 => rfl
  | 10 => rfl
  | 11 => rfl
  | 12 => rfl
  | 13 => rfl
  | 14 => rfl
  | 15 => rfl
  | n + 16 =>
    unfold RR
    rw [if_neg (by omega), show RRl.getD 2 [] = [(2, 3)] from rfl]
    simp [pm_up, List.lookup]
theorem yy_4 : pm_up (pm_up (pm_up (fun _ => none) 1 (some 5)) 2 (some 6)) 3 (some 7) = RR K0 4 := by
  funext k
  match k with
  | 0 => rfl
  | 1 => rfl
  | 2 => rfl
  | 3 => rfl
  | 4 => rfl
  | 5 => rfl
  | 6 => rfl
  | 7 => rfl
  | 8 => rfl
  | 9 => rfl
  | 10 => rfl
  | 11 => rfl
  | 12 => rfl
  | 13 => rfl
  | 14 => rfl
  | 15 => rfl
  | n + 16 =>
    unfold RR
    rw [if_neg (by omega), show RRl.getD 4 [] = [(1, 5), (2, 6), (3, 7)] from rfl]
    simp [pm_up, List.lookup]
theorem yy_8 : pm_up (pm_up (pm_up (fun _ => none) 1 (some 9)) 2 (some 10)) 3 (some 11) = RR K0 8 := by
  funext k
  match k with
  | 0 => rfl
  | 1 => rfl
  | 2 => rfl
  | 3 => rfl
  | 4 => rfl
  | 5 => rfl
  | 6 => rfl
  | 7 => rfl
  | 8 => rfl
  | 9 => rfl
  | 10 => rfl
  | 11 => rfl
  | 12 => rfl
  | 13 => rfl
  | 14 => rfl
  | 15 => rfl
  | n + 16 =>
    unfold RR
    rw [if_neg (by omega), show RRl.getD 8 [] = [(1, 9), (2, 10), (3, 11)] from rfl]
    simp [pm_up, List.lookup]
theorem yy_12 : pm_up (pm_up (pm_up (fun _ => none) 1 (some 13)) 2 (some 14)) 3 (some 15) = RR K0 12 := by
  funext k
  match k with
  | 0 => rfl
  | 1 => rfl
  | 2 => rfl
  | 3 => rfl
  | 4 => rfl
  | 5 => rfl
  | 6 => rfl
  | 7 => rfl
  | 8 => rfl
  | 9 => rfl
  | 10 => rfl
  | 11 => rfl
  | 12 => rfl
  | 13 => rfl
  | 14 => rfl
  | 15 => rfl
  | n + 16 =>
    unfold RR
    rw [if_neg (by omega), show RRl.getD 12 [] = [(1, 13), (2, 14), (3, 15)] from rfl]
    simp [pm_up, List.lookup]
theorem yy_16 : pm_up (pm_up (pm_up (fun _ => none) 1 (some 17)) 2 (some 18)) 3 (some 19) = RR K0 16 := by
  funext k
  match k with
  | 0 => rfl
  | 1 => rfl
  | 2 => rfl
  | 3 => rfl
  | 4 => rfl
  | 5 => rfl
  | 6 => rfl
  | 7 => rfl
  | 8 => rfl
  | 9 => rfl
  | 10 => rfl
  | 11 => rfl
  | 12 => rfl
  | 13 => rfl
  | 14 => rfl
  | 15 => rfl
  | n + 16 =>
    unfold RR
    rw [if_neg (by omega), show RRl.getD 16 [] = [(1, 17), (2, 18), (3, 19)] from rfl]
    simp [pm_up, List.lookup]
theorem yy_20 : pm_up (pm_up (pm_up (fun _ => none) 1 (some 21)) 2 (some 22)) 3 (some 23) = RR K0 20 := by
  funext k
  match k with
  | 0 => rfl
  | 1 => rfl
  | 2 => rfl
  | 3 => rfl
  | 4 => rfl
  | 5 => rfl
  | 6 => rfl
  | 7 => rfl
  | 8 => rfl
  | 9 => rfl
  | 10 => rfl
  | 11 => rfl
  | 12 => rfl
  | 13 => rfl
  | 14 => rfl
  | 15 => rfl
  | n + 16 =>
    unfold RR
    rw [if_neg (by omega), show RRl.getD 20 [] = [(1, 21), (2, 22), (3, 23)] from rfl]
    simp [pm_up, List.lookup]
theorem yy_24 : pm_up (pm_up (pm_up (fun _ => none) 1 (some 25)) 2 (some 26)) 3 (some 27) = RR K0 24 := by
  funext k
  match k with
  | 0 => rfl
  | 1 => rfl
  | 2 => rfl
  | 3 => rfl
  | 4 => rfl
  | 5 => rfl
  | 6 => rfl
  | 7 => rfl
  | 8 => rfl
  | 9 => rfl
  | 10 => rfl
  | 11 => rfl
  | 12 => rfl
  | 13 => rfl
  | 14 => rfl
  | 15 => rfl
  | n + 16 =>
    unfold RR
    rw [if_neg (by omega), show RRl.getD 24 [] = [(1, 25), (2, 26), (3, 27)] from rfl]
    simp [pm_up, List.lookup]
theorem yy_28 : pm_up (fun _ => none) 0 (some 29) = RR K0 28 := by
  funext k
  match k with
  | 0 => rfl
  | 1 => rfl
  | 2 => rfl
  | 3 => rfl
  | 4 => rfl
  | 5 => rfl
  | 6 => rfl
  | 7 => rfl
  | 8 => rfl
  | 9 => rfl
  | 10 => rfl
  | 11 => rfl
  | 12 => rfl
  | 13 => rfl
  | 14 => rfl
  | 15 => rfl
  | n + 16 =>
    unfold RR
    rw [if_neg (by omega), show RRl.getD 28 [] = [(0, 29)] from rfl]
    simp [pm_up, List.lookup]
theorem yy_31 : pm_up (pm_up (pm_up (pm_up (pm_up (fun _ => none) 4 (some 32)) 5 (some 33)) 7 (some 34)) 8 (some 35)) 9 (some 36) = RR K0 31 := by
  funext k
  match k with
  | 0 => rfl
  | 1 => rfl
  | 2 => rfl
  | 3 => rfl
  | 4 => rfl
  | 5 => rfl
  | 6 => rfl
  | 7 => rfl
  | 8 => rfl
  | 9 => rfl
  | 10 => rfl
  | 11 => rfl
  | 12 => rfl
  | 13 => rfl
  | 14 => rfl
  | 15 => rfl
  | n + 16 =>
    unfold RR
    rw [if_neg (by omega), show RRl.getD 31 [] = [(4, 32), (5, 33), (7, 34), (8, 35), (9, 36)] from rfl]
    simp [pm_up, List.lookup]
theorem yy_37 : pm_up (pm_up (pm_up (pm_up (pm_up (pm_up (pm_up (pm_up (pm_up (pm_up (pm_up (pm_up (fun _ => none) 1 (some 38)) 2 (some 39)) 3 (some 40)) 4 (some 41)) 5 (some 42)) 6 (some 43)) 11 (some 44)) 12 (some 45)) 13 (some 46)) 14 (some 47)) 15 (some 48)) 10 (some 31) = RR K0 37 := by
  funext k
  match k with
  | 0 => rfl
  | 1 => rfl
  | 2 => rfl
  | 3 => rfl
  | 4 => rfl
  | 5 => rfl
  | 6 => rfl
  | 7 => rfl
  | 8 => rfl
  | 9 => rfl
  | 10 => rfl
  | 11 => rfl
  | 12 => rfl
  | 13 => rfl
  | 14 => rfl
  | 15 => rfl
  | n + 16 =>
    unfold RR
    rw [if_neg (by omega), show RRl.getD 37 [] = [(1, 38), (2, 39), (3, 40), (4, 41), (5, 42), (6, 43), (11, 44), (12, 45), (13, 46), (14, 47), (15, 48)] from rfl]
    simp [pm_up, List.lookup]
theorem yy_49 : pm_up (pm_up (pm_up (pm_up (pm_up (pm_up (pm_up (pm_up (pm_up (pm_up (pm_up (pm_up (fun _ => none) 1 (some 50)) 2 (some 51)) 3 (some 52)) 4 (some 53)) 5 (some 54)) 6 (some 55)) 11 (some 56)) 12 (some 57)) 13 (some 58)) 14 (some 59)) 15 (some 60)) 10 (some 31) = RR K0 49 := by
  funext k
  match k with
  | 0 => rfl
  | 1 => rfl
  | 2 => rfl
  | 3 => rfl
  | 4 => rfl
  | 5 => rfl
  | 6 => rfl
  | 7 => rfl
  | 8 => rfl
  | 9 => rfl
  | 10 => rfl
  | 11 => rfl
  | 12 => rfl
  | 13 => rfl
  | 14 => rfl
  | 15 => rfl
  | n + 16 =>
    unfold RR
    rw [if_neg (by omega), show RRl.getD 49 [] = [(1, 50), (2, 51), (3, 52), (4, 53), (5, 54), (6, 55), (11, 56), (12, 57), (13, 58), (14, 59), (15, 60)] from rfl]
    simp [pm_up, List.lookup]
theorem yy_62 : pm_up (pm_up (pm_up (pm_up (pm_up (pm_up (pm_up (pm_up (pm_up (pm_up (pm_up (pm_up (fun _ => none) 1 (some 63)) 2 (some 64)) 3 (some 65)) 4 (some 66)) 5 (some 67)) 6 (some 68)) 11 (some 69)) 12 (some 70)) 13 (some 71)) 14 (some 72)) 15 (some 73)) 10 (some 31) = RR K0 62 := by
  funext k
  match k with
  | 0 => rfl
  | 1 => rfl
  | 2 => rfl
  | 3 => rfl
  | 4 => rfl
  | 5 => rfl
  | 6 => rfl
  | 7 => rfl
  | 8 => rfl
  | 9 => rfl
  | 10 => rfl
  | 11 => rfl
  | 12 => rfl
  | 13 => rfl
  | 14 => rfl
  | 15 => rfl
  | n + 16 =>
    unfold RR
    rw [if_neg (by omega), show RRl.getD 62 [] = [(1, 63), (2, 64), (3, 65), (4, 66), (5, 67), (6, 68), (11, 69), (12, 70), (13, 71), (14, 72), (15, 73)] from rfl]
    simp [pm_up, List.lookup]
theorem yy_74 : pm_up (pm_up (pm_up (pm_up (pm_up (fun _ => none) 4 (some 75)) 5 (some 76)) 7 (some 77)) 8 (some 78)) 9 (some 79) = RR K0 74 := by
  funext k
  match k with
  | 0 => rfl
  | 1 => rfl
  | 2 => rfl
  | 3 => rfl
  | 4 => rfl
  | 5 => rfl
  | 6 => rfl
  | 7 => rfl
  | 8 => rfl
  | 9 => rfl
  | 10 => rfl
  | 11 => rfl
  | 12 => rfl
  | 13 => rfl
  | 14 => rfl
  | 15 => rfl
  | n + 16 =>
    unfold RR
    rw [if_neg (by omega), show RRl.getD 74 [] = [(4, 75), (5, 76), (7, 77), (8, 78), (9, 79)] from rfl]
    simp [pm_up, List.lookup]
theorem yy_80 : pm_up (pm_up (pm_up (pm_up (pm_up (fun _ => none) 4 (some 81)) 5 (some 82)) 7 (some 83)) 8 (some 84)) 9 (some 85) = RR K0 80 := by
  funext k
  match k with
  | 0 => rfl
  | 1 => rfl
  | 2 => rfl
  | 3 => rfl
  | 4 => rfl
  | 5 => rfl
  | 6 => rfl
  | 7 => rfl
  | 8 => rfl
  | 9 => rfl
  | 10 => rfl
  | 11 => rfl
  | 12 => rfl
  | 13 => rfl
  | 14 => rfl
  | 15 => rfl
  | n + 16 =>
    unfold RR
    rw [if_neg (by omega), show RRl.getD 80 [] = [(4, 81), (5, 82), (7, 83), (8, 84), (9, 85)] from rfl]
    simp [pm_up, List.lookup]
theorem yy_86 : pm_up (pm_up (pm_up (pm_up (pm_up (fun _ => none) 4 (some 87)) 5 (some 88)) 7 (some 89)) 8 (some 90)) 9 (some 91) = RR K0 86 := by
  funext k
  match k with
  | 0 => rfl
  | 1 => rfl
  | 2 => rfl
  | 3 => rfl
  | 4 => rfl
  | 5 => rfl
  | 6 => rfl
  | 7 => rfl
  | 8 => rfl
  | 9 => rfl
  | 10 => rfl
  | 11 => rfl
  | 12 => rfl
  | 13 => rfl
  | 14 => rfl
  | 15 => rfl
  | n + 16 =>
    unfold RR
    rw [if_neg (by omega), show RRl.getD 86 [] = [(4, 87), (5, 88), (7, 89), (8, 90), (9, 91)] from rfl]
    simp [pm_up, List.lookup]
theorem yy_92 : pm_up (pm_up (pm_up (pm_up (pm_up (fun _ => none) 4 (some 93)) 5 (some 94)) 7 (some 95)) 8 (some 96)) 9 (some 97) = RR K0 92 := by
  funext k
  match k with
  | 0 => rfl
  | 1 => rfl
  | 2 => rfl
  | 3 => rfl
  | 4 => rfl
  | 5 => rfl
  | 6 => rfl
  | 7 => rfl
  | 8 => rfl
  | 9 => rfl
  | 10 => rfl
  | 11 => rfl
  | 12 => rfl
  | 13 => rfl
  | 14 => rfl
  | 15 => rfl
  | n + 16 =>
    unfold RR
    rw [if_neg (by omega), show RRl.getD 92 [] = [(4, 93), (5, 94), (7, 95), (8, 96), (9, 97)] from rfl]
    simp [pm_up, List.lookup]
theorem yy_98 : pm_up (pm_up (pm_up (pm_up (pm_up (fun _ => none) 4 (some 99)) 5 (some 100)) 7 (some 101)) 8 (some 102)) 9 (some 103) = RR K0 98 := by
  funext k
  match k with
  | 0 => rfl
  | 1 => rfl
  | 2 => rfl
  | 3 => rfl
  | 4 => rfl
  | 5 => rfl
  | 6 => rfl
  | 7 => rfl
  | 8 => rfl
  | 9 => rfl
  | 10 => rfl
  | 11 => rfl
  | 12 => rfl
  | 13 => rfl
  | 14 => rfl
  | 15 => rfl
  | n + 16 =>
    unfold RR
    rw [if_neg (by omega), show RRl.getD 98 [] = [(4, 99), (5, 100), (7, 101), (8, 102), (9, 103)] from rfl]
    simp [pm_up, List.lookup]
theorem yy_104 : pm_up (pm_up (pm_up (pm_up (pm_up (fun _ => none) 4 (some 105)) 5 (some 106)) 7 (some 107)) 8 (some 108)) 9 (some 109) = RR K0 104 := by
  funext k
  match k with
  | 0 => rfl
  | 1 => rfl
  | 2 => rfl
  | 3 => rfl
  | 4 => rfl
  | 5 => rfl
  | 6 => rfl
  | 7 => rfl
  | 8 => rfl
  | 9 => rfl
  | 10 => rfl
  | 11 => rfl
  | 12 => rfl
  | 13 => rfl
  | 14 => rfl
  | 15 => rfl
  | n + 16 =>
    unfold RR
    rw [if_neg (by omega), show RRl.getD 104 [] = [(4, 105), (5, 106), (7, 107), (8, 108), (9, 109)] from rfl]
    simp [pm_up, List.lookup]
theorem yy_110 : pm_up (fun _ => none) 2 (some 111) = RR K0 110 := by
  funext k
  match k with
  | 0 => rfl
  | 1 => rfl
  | 2 => rfl
  | 3 => rfl
  | 4 => rfl
  | 5 => rfl
  | 6 => rfl
  | 7 => rfl
  | 8 => rfl
  | 9 => rfl
  | 10 => rfl
  | 11 => rfl
  | 12 => rfl
  | 13 => rfl
  | 14 => rfl
  | 15 => rfl
  | n + 16 =>
    unfold RR
    rw [if_neg (by omega), show RRl.getD 110 [] = [(2, 111)] from rfl]
    simp [pm_up, List.lookup]
theorem yy_112 : pm_up (fun _ => none) 2 (some 113) = RR K0 112 := by
  funext k
  match k with
  | 0 => rfl
  | 1 => rfl
  | 2 => rfl
  | 3 => rfl
  | 4 => rfl
  | 5 => rfl
  | 6 => rfl
  | 7 => rfl
  | 8 => rfl
  | 9 => rfl
  | 10 => rfl
  | 11 => rfl
  | 12 => rfl
  | 13 => rfl
  | 14 => rfl
  | 15 => rfl
  | n + 16 =>
    unfold RR
    rw [if_neg (by omega), show RRl.getD 112 [] = [(2, 113)] from rfl]
    simp [pm_up, List.lookup]
theorem yy_114 : pm_up (fun _ => none) 2 (some 115) = RR K0 114 := by
  funext k
  match k with
  | 0 => rfl
  | 1 => rfl
  | 2 => rfl
  | 3 => rfl
  | 4 => rfl
  | 5 => rfl
  | 6 => rfl
  | 7 => rfl
  | 8 => rfl
  | 9 => rfl
  | 10 => rfl
  | 11 => rfl
  | 12 => rfl
  | 13 => rfl
  | 14 => rfl
  | 15 => rfl
  | n + 16 =>
    unfold RR
    rw [if_neg (by omega), show RRl.getD 114 [] = [(2, 115)] from rfl]
    simp [pm_up, List.lookup]
theorem yy_116 : pm_up (fun _ => none) 2 (some 117) = RR K0 116 := by
  funext k
  match k with
  | 0 => rfl
  | 1 => rfl
  | 2 => rfl
  | 3 => rfl
  | 4 => rfl
  | 5 => rfl
  | 6 => rfl
  | 7 => rfl
  | 8 => rfl
  | 9 => rfl
  | 10 => rfl
  | 11 => rfl
  | 12 => rfl
  | 13 => rfl
  | 14 => rfl
  | 15 => rfl
  | n + 16 =>
    unfold RR
    rw [if_neg (by omega), show RRl.getD 116 [] = [(2, 117)] from rfl]
    simp [pm_up, List.lookup]
theorem yy_118 : pm_up (fun _ => none) 2 (some 119) = RR K0 118 := by
  funext k
  match k with
  | 0 => rfl
  | 1 => rfl
  | 2 => rfl
  | 3 => rfl
  | 4 => rfl
  | 5 => rfl
  | 6 => rfl
  | 7 => rfl
  | 8 => rfl
  | 9 => rfl
  | 10 => rfl
  | 11 => rfl
  | 12 => rfl
  | 13 => rfl
  | 14 => rfl
  | 15 => rfl
  | n + 16 =>
    unfold RR
    rw [if_neg (by omega), show RRl.getD 118 [] = [(2, 119)] from rfl]
    simp [pm_up, List.lookup]
theorem yy_120 : pm_up (fun _ => none) 2 (some 121) = RR K0 120 := by
  funext k
  match k with
  | 0 => rfl
  | 1 => rfl
  | 2 => rfl
  | 3 => rfl
  | 4 => rfl
  | 5 => rfl
  | 6 => rfl
  | 7 => rfl
  | 8 => rfl
  | 9 => rfl
  | 10 => rfl
  | 11 => rfl
  | 12 => rfl
  | 13 => rfl
  | 14 => rfl
  | 15 => rfl
  | n + 16 =>
    unfold RR
    rw [if_neg (by omega), show RRl.getD 120 [] = [(2, 121)] from rfl]
    simp [pm_up, List.lookup]
theorem w74_a (q : B0 (fun _ => none) (fun _ => none) 1 ro io I L R)
    (h : ∀ I L R, B0 (fun _ => none) (fun _ => none) 2 (pm_up (ro) 0 (some 1)) (pm_up (io) 1 0) I L R → pm_wp X (d + 3) 74 18 [(0, .ref 0)] [] 1 6 (SH.take 2) I L R Q) : pm_wp X (d + 3) 74 0 [(0, .ref 0)] [] 0 0 (SH.take 1) I L R Q := by
  have e1 : (SH.take 1)[0]? = some (0, 7) := (sh_at (by decide)).trans rfl
  have l1 : (SH.take 1).length = 1 := sh_ln (by decide)
  have e2 : (SH.take 2)[0]? = some (0, 7) := (sh_at (by decide)).trans rfl
  have l2 : (SH.take 2).length = 2 := sh_ln (by decide)
  have t1 : SH.take 1 ++ [(6, 6)] = SH.take 2 := sh_tk rfl
  refine pm_gos (n := 60) (stops := [18]) ?_
  simp only [st_iload_n, st_iload, st_lload_n, st_aload_n, st_aload, st_istore_n, st_istore, st_astore_n, st_astore, st_iconst, st_bipush, st_sipush, st_lconst, st_ldc, st_ldc_w, st_ldc2_w, st_getfield, st_putfieldI, st_putfieldR, st_getstatic, st_iaload, st_iastore, st_baload, st_bastore, st_laload, st_lastore, st_aaload, st_aastore, st_arraylength, st_iadd, st_isub, st_imul, st_iand, st_ior, st_ixor, st_ishl, st_ishr, st_idiv, st_irem, st_ineg, st_land, st_lor, st_lshl, st_i2l, st_l2i, st_i2b, st_i2s, st_i2c, st_lcmp, st_iinc, st_dupI, st_dupR, st_dup2, st_pop, st_goto, st_if_eq, st_icmp_eq, st_if_ne, st_icmp_ne, st_if_lt, st_icmp_lt, st_if_ge, st_icmp_ge, st_if_gt, st_icmp_gt, st_if_le, st_icmp_le, st_tsw, st_lsw, st_newarray, st_anewarray, st_new, st_invokevirtual, st_invokespecial, oin_ref, st_static, st_max, st_min, st_abs, st_copyi, st_copyl, st_ireturn, st_lreturn, st_areturn, st_return, rn_succ, inl_nil, inl_cons, rno_some, oi_some, ol_some, or_some, lk_cons, ins_nil, ins_cons, rm_nil, rm_int, rm_ref, rm_long, pop_0, pop_1, pop_2, pop_3, pop_4, pop_5, pop_6, la_nil, la_int, la_ref, la_long, cat_nil, cat_int, cat_ref, cat_long, call_succ, cont_some, cont_none, rcv_0, rcv_1, rcv_2, rcv_3, rcv_4, rcv_5, rcv_6, rcv_7, rcv_8, rcv_s, rf_some, ret_0, ret_10, ret_11, ret_ite, ite_0, sw_nil, sw_cons, ln_some, isk_some, al_some, ↓reduceIte, Nat.reduceAdd, Nat.reduceEqDiff, Nat.reduceLeDiff, Nat.reduceLT, Int32.reduceLT, Int32.reduceLE, Int32.reduceToNatClampNeg, Int32.reduceOfNat, Int32.reduceAdd, Int32.reduceSub, Int.reduceEq, Int.reduceNeg, Int.reduceLT, Int32.reduceOfInt, Int64.reduceOfInt, Bool.false_eq_true, true_and, and_true, eq_self, not_true_eq_false, not_false_eq_true, false_imp_iff, true_imp_iff, forall_const, or_true, true_or, ne_eq, Nat.zero_add, Nat.add_zero, Nat.le_refl, reduceCtorEq, Ft74, e1, l1, e2, l2, t1]
  refine ⟨by unfold pm_nf3; omega, rm_g (by decide) (by decide) (by decide) (by decide) (scl_r (by decide) scl_n) (scv_r (by decide) scv_n), h _ _ _ ?_⟩
  exact mk_i (F := 1) (v := 0) (mk_ax (F := 0) (f := fun _ => 0) (by decide) (by decide) rfl rfl q)
theorem w74_0 (q : B0 (fun _ => none) (fun _ => none) 2 ro io I L R)
    (h : ∀ I L R, B0 (fun _ => none) (fun _ => none) 4 (pm_up (ro) 2 (some 2)) (io) I L R → pm_wp X (d + 3) 74 29 [(0, .ref 0)] [] 3 110 (SH.take 4) I L R Q) : pm_wp X (d + 3) 74 18 [(0, .ref 0)] [] 1 6 (SH.take 2) I L R Q := by
  have e2 : (SH.take 2)[0]? = some (0, 7) := (sh_at (by decide)).trans rfl
  have l2 : (SH.take 2).length = 2 := sh_ln (by decide)
  have e3 : (SH.take 3)[0]? = some (0, 7) := (sh_at (by decide)).trans rfl
  have l3 : (SH.take 3).length = 3 := sh_ln (by decide)
  have e4 : (SH.take 4)[0]? = some (0, 7) := (sh_at (by decide)).trans rfl
  have l4 : (SH.take 4).length = 4 := sh_ln (by decide)
  have t2 : SH.take 2 ++ [(0, 3)] = SH.take 3 := sh_tk rfl
  refine pm_gos (n := 60) (stops := [29]) ?_
  simp only [st_iload_n, st_iload, st_lload_n, st_aload_n, st_aload, st_istore_n, st_istore, st_astore_n, st_astore, st_iconst, st_bipush, st_sipush, st_lconst, st_ldc, st_ldc_w, st_ldc2_w, st_getfield, st_putfieldI, st_putfieldR, st_getstatic, st_iaload, st_iastore, st_baload, st_bastore, st_laload, st_lastore, st_aaload, st_aastore, st_arraylength, st_iadd, st_isub, st_imul, st_iand, st_ior, st_ixor, st_ishl, st_ishr, st_idiv, st_irem, st_ineg, st_land, st_lor, st_lshl, st_i2l, st_l2i, st_i2b, st_i2s, st_i2c, st_lcmp, st_iinc, st_dupI, st_dupR, st_dup2, st_pop, st_goto, st_if_eq, st_icmp_eq, st_if_ne, st_icmp_ne, st_if_lt, st_icmp_lt, st_if_ge, st_icmp_ge, st_if_gt, st_icmp_gt, st_if_le, st_icmp_le, st_tsw, st_lsw, st_newarray, st_anewarray, st_new, st_invokevirtual, st_invokespecial, oin_ref, st_static, st_max, st_min, st_abs, st_copyi, st_copyl, st_ireturn, st_lreturn, st_areturn, st_return, rn_succ, inl_nil, inl_cons, rno_some, oi_some, ol_some, or_some, lk_cons, ins_nil, ins_cons, rm_nil, rm_int, rm_ref, rm_long, pop_0, pop_1, pop_2, pop_3, pop_4, pop_5, pop_6, la_nil, la_int, la_ref, la_long, cat_nil, cat_int, cat_ref, cat_long, call_succ, cont_some, cont_none, rcv_0, rcv_1, rcv_2, rcv_3, rcv_4, rcv_5, rcv_6, rcv_7, rcv_8, rcv_s, rf_some, ret_0, ret_10, ret_11, ret_ite, ite_0, sw_nil, sw_cons, ln_some, isk_some, al_some, ↓reduceIte, Nat.reduceAdd, Nat.reduceEqDiff, Nat.reduceLeDiff, Nat.reduceLT, Int32.reduceLT, Int32.reduceLE, Int32.reduceToNatClampNeg, Int32.reduceOfNat, Int32.reduceAdd, Int32.reduceSub, Int.reduceEq, Int.reduceNeg, Int.reduceLT, Int32.reduceOfInt, Int64.reduceOfInt, Bool.false_eq_true, true_and, and_true, eq_self, not_true_eq_false, not_false_eq_true, false_imp_iff, true_imp_iff, forall_const, or_true, true_or, ne_eq, Nat.zero_add, Nat.add_zero, Nat.le_refl, reduceCtorEq, Ft74, e2, l2, e3, l3, e4, l4, t2, and_self]
  refine ⟨rm_g (by decide) (by decide) (by decide) (by decide) (scl_r (by decide) scl_n) (scv_r (by decide) scv_n), by unfold pm_nf3; decide, Or.inr ⟨(scl_r (by decide) scl_n), (scv_r (by decide) (scv_r (by decide) scv_n))⟩, w_x29 (by decide) (by decide) (by decide) (show SH[2]? = some (0, 3) from rfl) (show SH[3]? = some (1, 100) from rfl) (b0_new q) rfl rfl (Eq.symm yy_2) (ar_y (show SH[3]? = some (1, 100) from rfl) (by decide) (by decide) (by decide)).2 fun I1 L1 R1 c1 k1 => ?_⟩
  have q1 := b0_call (by decide) q c1 k1
  simp only [st_iload_n, st_iload, st_lload_n, st_aload_n, st_aload, st_istore_n, st_istore, st_astore_n, st_astore, st_iconst, st_bipush, st_sipush, st_lconst, st_ldc, st_ldc_w, st_ldc2_w, st_getfield, st_putfieldI, st_putfieldR, st_getstatic, st_iaload, st_iastore, st_baload, st_bastore, st_laload, st_lastore, st_aaload, st_aastore, st_arraylength, st_iadd, st_isub, st_imul, st_iand, st_ior, st_ixor, st_ishl, st_ishr, st_idiv, st_irem, st_ineg, st_land, st_lor, st_lshl, st_i2l, st_l2i, st_i2b, st_i2s, st_i2c, st_lcmp, st_iinc, st_dupI, st_dupR, st_dup2, st_pop, st_goto, st_if_eq, st_icmp_eq, st_if_ne, st_icmp_ne, st_if_lt, st_icmp_lt, st_if_ge, st_icmp_ge, st_if_gt, st_icmp_gt, st_if_le, st_icmp_le, st_tsw, st_lsw, st_newarray, st_anewarray, st_new, st_invokevirtual, st_invokespecial, oin_ref, st_static, st_max, st_min, st_abs, st_copyi, st_copyl, st_ireturn, st_lreturn, st_areturn, st_return, rn_succ, inl_nil, inl_cons, rno_some, oi_some, ol_some, or_some, lk_cons, ins_nil, ins_cons, rm_nil, rm_int, rm_ref, rm_long, pop_0, pop_1, pop_2, pop_3, pop_4, pop_5, pop_6, la_nil, la_int, la_ref, la_long, cat_nil, cat_int, cat_ref, cat_long, call_succ, cont_some, cont_none, rcv_0, rcv_1, rcv_2, rcv_3, rcv_4, rcv_5, rcv_6, rcv_7, rcv_8, rcv_s, rf_some, ret_0, ret_10, ret_11, ret_ite, ite_0, sw_nil, sw_cons, ln_some, isk_some, al_some, ↓reduceIte, Nat.reduceAdd, Nat.reduceEqDiff, Nat.reduceLeDiff, Nat.reduceLT, Int32.reduceLT, Int32.reduceLE, Int32.reduceToNatClampNeg, Int32.reduceOfNat, Int32.reduceAdd, Int32.reduceSub, Int.reduceEq, Int.reduceNeg, Int.reduceLT, Int32.reduceOfInt, Int64.reduceOfInt, Bool.false_eq_true, true_and, and_true, eq_self, not_true_eq_false, not_false_eq_true, false_imp_iff, true_imp_iff, forall_const, or_true, true_or, ne_eq, Nat.zero_add, Nat.add_zero, Nat.le_refl, reduceCtorEq, Ft74, e2, l2, e3, l3, e4, l4, t2, and_self]
  exact h _ _ _ (b0_r (by decide) q1)
theorem w74_1 (q : B0 (fun _ => none) (fun _ => none) 4 ro io I L R)
    (h : ∀ I L R, B0 (fun _ => none) (fun _ => none) 8 (pm_up (ro) 4 (some 4)) (io) I L R → pm_wp X (d + 3) 74 41 [(0, .ref 0)] [] 7 144 (SH.take 8) I L R Q) : pm_wp X (d + 3) 74 29 [(0, .ref 0)] [] 3 110 (SH.take 4) I L R Q := by
  have e4 : (SH.take 4)[0]? = some (0, 7) := (sh_at (by decide)).trans rfl
  have l4 : (SH.take 4).length = 4 := sh_ln (by decide)
  have e5 : (SH.take 5)[0]? = some (0, 7) := (sh_at (by decide)).trans rfl
  have l5 : (SH.take 5).length = 5 := sh_ln (by decide)
  have e8 : (SH.take 8)[0]? = some (0, 7) := (sh_at (by decide)).trans rfl
  have l8 : (SH.take 8).length = 8 := sh_ln (by decide)
  have t4 : SH.take 4 ++ [(0, 4)] = SH.take 5 := sh_tk rfl
  refine pm_gos (n := 60) (stops := [41]) ?_
  simp only [st_iload_n, st_iload, st_lload_n, st_aload_n, st_aload, st_istore_n, st_istore, st_astore_n, st_astore, st_iconst, st_bipush, st_sipush, st_lconst, st_ldc, st_ldc_w, st_ldc2_w, st_getfield, st_putfieldI, st_putfieldR, st_getstatic, st_iaload, st_iastore, st_baload, st_bastore, st_laload, st_lastore, st_aaload, st_aastore, st_arraylength, st_iadd, st_isub, st_imul, st_iand, st_ior, st_ixor, st_ishl, st_ishr, st_idiv, st_irem, st_ineg, st_land, st_lor, st_lshl, st_i2l, st_l2i, st_i2b, st_i2s, st_i2c, st_lcmp, st_iinc, st_dupI, st_dupR, st_dup2, st_pop, st_goto, st_if_eq, st_icmp_eq, st_if_ne, st_icmp_ne, st_if_lt, st_icmp_lt, st_if_ge, st_icmp_ge, st_if_gt, st_icmp_gt, st_if_le, st_icmp_le, st_tsw, st_lsw, st_newarray, st_anewarray, st_new, st_invokevirtual, st_invokespecial, oin_ref, st_static, st_max, st_min, st_abs, st_copyi, st_copyl, st_ireturn, st_lreturn, st_areturn, st_return, rn_succ, inl_nil, inl_cons, rno_some, oi_some, ol_some, or_some, lk_cons, ins_nil, ins_cons, rm_nil, rm_int, rm_ref, rm_long, pop_0, pop_1, pop_2, pop_3, pop_4, pop_5, pop_6, la_nil, la_int, la_ref, la_long, cat_nil, cat_int, cat_ref, cat_long, call_succ, cont_some, cont_none, rcv_0, rcv_1, rcv_2, rcv_3, rcv_4, rcv_5, rcv_6, rcv_7, rcv_8, rcv_s, rf_some, ret_0, ret_10, ret_11, ret_ite, ite_0, sw_nil, sw_cons, ln_some, isk_some, al_some, ↓reduceIte, Nat.reduceAdd, Nat.reduceEqDiff, Nat.reduceLeDiff, Nat.reduceLT, Int32.reduceLT, Int32.reduceLE, Int32.reduceToNatClampNeg, Int32.reduceOfNat, Int32.reduceAdd, Int32.reduceSub, Int.reduceEq, Int.reduceNeg, Int.reduceLT, Int32.reduceOfInt, Int64.reduceOfInt, Bool.false_eq_true, true_and, and_true, eq_self, not_true_eq_false, not_false_eq_true, false_imp_iff, true_imp_iff, forall_const, or_true, true_or, ne_eq, Nat.zero_add, Nat.add_zero, Nat.le_refl, reduceCtorEq, Ft74, e4, l4, e5, l5, e8, l8, t4, and_self]
  refine ⟨rm_g (by decide) (by decide) (by decide) (by decide) (scl_r (by decide) scl_n) (scv_r (by decide) scv_n), by unfold pm_nf3; decide, Or.inr ⟨(scl_r (by decide) scl_n), (scv_r (by decide) (scv_r (by decide) scv_n))⟩, w_x44 (N := 5) (by decide) (by decide) (by decide) (by decide) (by decide) (show SH[4]? = some (0, 4) from rfl) (show SH[5]? = some (1, 5) from rfl) (show SH[6]? = some (1, 5) from rfl) (show SH[7]? = some (1, 5) from rfl) (b0_new q) rfl yy_4 fun I1 L1 R1 c1 k1 => ?_⟩
  have q1 := b0_call (by decide) q c1 k1
  simp only [st_iload_n, st_iload, st_lload_n, st_aload_n, st_aload, st_istore_n, st_istore, st_astore_n, st_astore, st_iconst, st_bipush, st_sipush, st_lconst, st_ldc, st_ldc_w, st_ldc2_w, st_getfield, st_putfieldI, st_putfieldR, st_getstatic, st_iaload, st_iastore, st_baload, st_bastore, st_laload, st_lastore, st_aaload, st_aastore, st_arraylength, st_iadd, st_isub, st_imul, st_iand, st_ior, st_ixor, st_ishl, st_ishr, st_idiv, st_irem, st_ineg, st_land, st_lor, st_lshl, st_i2l, st_l2i, st_i2b, st_i2s, st_i2c, st_lcmp, st_iinc, st_dupI, st_dupR, st_dup2, st_pop, st_goto, st_if_eq, st_icmp_eq, st_if_ne, st_icmp_ne, st_if_lt, st_icmp_lt, st_if_ge, st_icmp_ge, st_if_gt, st_icmp_gt, st_if_le, st_icmp_le, st_tsw, st_lsw, st_newarray, st_anewarray, st_new, st_invokevirtual, st_invokespecial, oin_ref, st_static, st_max, st_min, st_abs, st_copyi, st_copyl, st_ireturn, st_lreturn, st_areturn, st_return, rn_succ, inl_nil, inl_cons, rno_some, oi_some, ol_some, or_some, lk_cons, ins_nil, ins_cons, rm_nil, rm_int, rm_ref, rm_long, pop_0, pop_1, pop_2, pop_3, pop_4, pop_5, pop_6, la_nil, la_int, la_ref, la_long, cat_nil, cat_int, cat_ref, cat_long, call_succ, cont_some, cont_none, rcv_0, rcv_1, rcv_2, rcv_3, rcv_4, rcv_5, rcv_6, rcv_7, rcv_8, rcv_s, rf_some, ret_0, ret_10, ret_11, ret_ite, ite_0, sw_nil, sw_cons, ln_some, isk_some, al_some, ↓reduceIte, Nat.reduceAdd, Nat.reduceEqDiff, Nat.reduceLeDiff, Nat.reduceLT, Int32.reduceLT, Int32.reduceLE, Int32.reduceToNatClampNeg, Int32.reduceOfNat, Int32.reduceAdd, Int32.reduceSub, Int.reduceEq, Int.reduceNeg, Int.reduceLT, Int32.reduceOfInt, Int64.reduceOfInt, Bool.false_eq_true, true_and, and_true, eq_self, not_true_eq_false, not_false_eq_true, false_imp_iff, true_imp_iff, forall_const, or_true, true_or, ne_eq, Nat.zero_add, Nat.add_zero, Nat.le_refl, reduceCtorEq, Ft74, e4, l4, e5, l5, e8, l8, t4, and_self]
  exact h _ _ _ (b0_r (by decide) q1)
theorem w74_2 (q : B0 (fun _ => none) (fun _ => none) 8 ro io I L R)
    (h : ∀ I L R, B0 (fun _ => none) (fun _ => none) 12 (pm_up (ro) 5 (some 8)) (io) I L R → pm_wp X (d + 3) 74 54 [(0, .ref 0)] [] 11 178 (SH.take 12) I L R Q) : pm_wp X (d + 3) 74 41 [(0, .ref 0)] [] 7 144 (SH.take 8) I L R Q := by
  have e8 : (SH.take 8)[0]? = some (0, 7) := (sh_at (by decide)).trans rfl
  have l8 : (SH.take 8).length = 8 := sh_ln (by decide)
  have e9 : (SH.take 9)[0]? = some (0, 7) := (sh_at (by decide)).trans rfl
  have l9 : (SH.take 9).length = 9 := sh_ln (by decide)
  have e12 : (SH.take 12)[0]? = some (0, 7) := (sh_at (by decide)).trans rfl
  have l12 : (SH.take 12).length = 12 := sh_ln (by decide)
  have t8 : SH.take 8 ++ [(0, 4)] = SH.take 9 := sh_tk rfl
  refine pm_gos (n := 60) (stops := [54]) ?_
  simp only [st_iload_n, st_iload, st_lload_n, st_aload_n, st_aload, st_istore_n, st_istore, st_astore_n, st_astore, st_iconst, st_bipush, st_sipush, st_lconst, st_ldc, st_ldc_w, st_ldc2_w, st_getfield, st_putfieldI, st_putfieldR, st_getstatic, st_iaload, st_iastore, st_baload, st_bastore, st_laload, st_lastore, st_aaload, st_aastore, st_arraylength, st_iadd, st_isub, st_imul, st_iand, st_ior, st_ixor, st_ishl, st_ishr, st_idiv, st_irem, st_ineg, st_land, st_lor, st_lshl, st_i2l, st_l2i, st_i2b, st_i2s, st_i2c, st_lcmp, st_iinc, st_dupI, st_dupR, st_dup2, st_pop, st_goto, st_if_eq, st_icmp_eq, st_if_ne, st_icmp_ne, st_if_lt, st_icmp_lt, st_if_ge, st_icmp_ge, st_if_gt, st_icmp_gt, st_if_le, st_icmp_le, st_tsw, st_lsw, st_newarray, st_anewarray, st_new, st_invokevirtual, st_invokespecial, oin_ref, st_static, st_max, st_min, st_abs, st_copyi, st_copyl, st_ireturn, st_lreturn, st_areturn, st_return, rn_succ, inl_nil, inl_cons, rno_some, oi_some, ol_some, or_some, lk_cons, ins_nil, ins_cons, rm_nil, rm_int, rm_ref, rm_long, pop_0, pop_1, pop_2, pop_3, pop_4, pop_5, pop_6, la_nil, la_int, la_ref, la_long, cat_nil, cat_int, cat_ref, cat_long, call_succ, cont_some, cont_none, rcv_0, rcv_1, rcv_2, rcv_3, rcv_4, rcv_5, rcv_6, rcv_7, rcv_8, rcv_s, rf_some, ret_0, ret_10, ret_11, ret_ite, ite_0, sw_nil, sw_cons, ln_some, isk_some, al_some, ↓reduceIte, Nat.reduceAdd, Nat.reduceEqDiff, Nat.reduceLeDiff, Nat.reduceLT, Int32.reduceLT, Int32.reduceLE, Int32.reduceToNatClampNeg, Int32.reduceOfNat, Int32.reduceAdd, Int32.reduceSub, Int.reduceEq, Int.reduceNeg, Int.reduceLT, Int32.reduceOfInt, Int64.reduceOfInt, Bool.false_eq_true, true_and, and_true, eq_self, not_true_eq_false, not_false_eq_true, false_imp_iff, true_imp_iff, forall_const, or_true, true_or, ne_eq, Nat.zero_add, Nat.add_zero, Nat.le_refl, reduceCtorEq, Ft74, e8, l8, e9, l9, e12, l12, t8, and_self]
  refine ⟨rm_g (by decide) (by decide) (by decide) (by decide) (scl_r (by decide) scl_n) (scv_r (by decide) scv_n), by unfold pm_nf3; decide, Or.inr ⟨(scl_r (by decide) scl_n), (scv_r (by decide) (scv_r (by decide) scv_n))⟩, w_x44 (N := 10) (by decide) (by decide) (by decide) (by decide) (by decide) (show SH[8]? = some (0, 4) from rfl) (show SH[9]? = some (1, 10) from rfl) (show SH[10]? = some (1, 10) from rfl) (show SH[11]? = some (1, 10) from rfl) (b0_new q) rfl yy_8 fun I1 L1 R1 c1 k1 => ?_⟩
  have q1 := b0_call (by decide) q c1 k1
  simp only [st_iload_n, st_iload, st_lload_n, st_aload_n, st_aload, st_istore_n, st_istore, st_astore_n, st_astore, st_iconst, st_bipush, st_sipush, st_lconst, st_ldc, st_ldc_w, st_ldc2_w, st_getfield, st_putfieldI, st_putfieldR, st_getstatic, st_iaload, st_iastore, st_baload, st_bastore, st_laload, st_lastore, st_aaload, st_aastore, st_arraylength, st_iadd, st_isub, st_imul, st_iand, st_ior, st_ixor, st_ishl, st_ishr, st_idiv, st_irem, st_ineg, st_land, st_lor, st_lshl, st_i2l, st_l2i, st_i2b, st_i2s, st_i2c, st_lcmp, st_iinc, st_dupI, st_dupR, st_dup2, st_pop, st_goto, st_if_eq, st_icmp_eq, st_if_ne, st_icmp_ne, st_if_lt, st_icmp_lt, st_if_ge, st_icmp_ge, st_if_gt, st_icmp_gt, st_if_le, st_icmp_le, st_tsw, st_lsw, st_newarray, st_anewarray, st_new, st_invokevirtual, st_invokespecial, oin_ref, st_static, st_max, st_min, st_abs, st_copyi, st_copyl, st_ireturn, st_lreturn, st_areturn, st_return, rn_succ, inl_nil, inl_cons, rno_some, oi_some, ol_some, or_some, lk_cons, ins_nil, ins_cons, rm_nil, rm_int, rm_ref, rm_long, pop_0, pop_1, pop_2, pop_3, pop_4, pop_5, pop_6, la_nil, la_int, la_ref, la_long, cat_nil, cat_int, cat_ref, cat_long, call_succ, cont_some, cont_none, rcv_0, rcv_1, rcv_2, rcv_3, rcv_4, rcv_5, rcv_6, rcv_7, rcv_8, rcv_s, rf_some, ret_0, ret_10, ret_11, ret_ite, ite_0, sw_nil, sw_cons, ln_some, isk_some, al_some, ↓reduceIte, Nat.reduceAdd, Nat.reduceEqDiff, Nat.reduceLeDiff, Nat.reduceLT, Int32.reduceLT, Int32.reduceLE, Int32.reduceToNatClampNeg, Int32.reduceOfNat, Int32.reduceAdd, Int32.reduceSub, Int.reduceEq, Int.reduceNeg, Int.reduceLT, Int32.reduceOfInt, Int64.reduceOfInt, Bool.false_eq_true, true_and, and_true, eq_self, not_true_eq_false, not_false_eq_true, false_imp_iff, true_imp_iff, forall_const, or_true, true_or, ne_eq, Nat.zero_add, Nat.add_zero, Nat.le_refl, reduceCtorEq, Ft74, e8, l8, e9, l9, e12, l12, t8, and_self]
  exact h _ _ _ (b0_r (by decide) q1)
theorem w74_3 (q : B0 (fun _ => none) (fun _ => none) 12 ro io I L R)
    (h : ∀ I L R, B0 (fun _ => none) (fun _ => none) 16 (pm_up (ro) 6 (some 12)) (io) I L R → pm_wp X (d + 3) 74 67 [(0, .ref 0)] [] 15 212 (SH.take 16) I L R Q) : pm_wp X (d + 3) 74 54 [(0, .ref 0)] [] 11 178 (SH.take 12) I L R Q := by
  have e12 : (SH.take 12)[0]? = some (0, 7) := (sh_at (by decide)).trans rfl
  have l12 : (SH.take 12).length = 12 := sh_ln (by decide)
  have e13 : (SH.take 13)[0]? = some (0, 7) := (sh_at (by decide)).trans rfl
  have l13 : (SH.take 13).length = 13 := sh_ln (by decide)
  have e16 : (SH.take 16)[0]? = some (0, 7) := (sh_at (by decide)).trans rfl
  have l16 : (SH.take 16).length = 16 := sh_ln (by decide)
  have t12 : SH.take 12 ++ [(0, 4)] = SH.take 13 := sh_tk rfl
  refine pm_gos (n := 60) (stops := [67]) ?_
  simp only [st_iload_n, st_iload, st_lload_n, st_aload_n, st_aload, st_istore_n, st_istore, st_astore_n, st_astore, st_iconst, st_bipush, st_sipush, st_lconst, st_ldc, st_ldc_w, st_ldc2_w, st_getfield, st_putfieldI, st_putfieldR, st_getstatic, st_iaload, st_iastore, st_baload, st_bastore, st_laload, st_lastore, st_aaload, st_aastore, st_arraylength, st_iadd, st_isub, st_imul, st_iand, st_ior, st_ixor, st_ishl, st_ishr, st_idiv, st_irem, st_ineg, st_land, st_lor, st_lshl, st_i2l, st_l2i, st_i2b, st_i2s, st_i2c, st_lcmp, st_iinc, st_dupI, st_dupR, st_dup2, st_pop, st_goto, st_if_eq, st_icmp_eq, st_if_ne, st_icmp_ne, st_if_lt, st_icmp_lt, st_if_ge, st_icmp_ge, st_if_gt, st_icmp_gt, st_if_le, st_icmp_le, st_tsw, st_lsw, st_newarray, st_anewarray, st_new, st_invokevirtual, st_invokespecial, oin_ref, st_static, st_max, st_min, st_abs, st_copyi, st_copyl, st_ireturn, st_lreturn, st_areturn, st_return, rn_succ, inl_nil, inl_cons, rno_some, oi_some, ol_some, or_some, lk_cons, ins_nil, ins_cons, rm_nil, rm_int, rm_ref, rm_long, pop_0, pop_1, pop_2, pop_3, pop_4, pop_5, pop_6, la_nil, la_int, la_ref, la_long, cat_nil, cat_int, cat_ref, cat_long, call_succ, cont_some, cont_none, rcv_0, rcv_1, rcv_2, rcv_3, rcv_4, rcv_5, rcv_6, rcv_7, rcv_8, rcv_s, rf_some, ret_0, ret_10, ret_11, ret_ite, ite_0, sw_nil, sw_cons, ln_some, isk_some, al_some, ↓reduceIte, Nat.reduceAdd, Nat.reduceEqDiff, Nat.reduceLeDiff, Nat.reduceLT, Int32.reduceLT, Int32.reduceLE, Int32.reduceToNatClampNeg, Int32.reduceOfNat, Int32.reduceAdd, Int32.reduceSub, Int.reduceEq, Int.reduceNeg, Int.reduceLT, Int32.reduceOfInt, Int64.reduceOfInt, Bool.false_eq_true, true_and, and_true, eq_self, not_true_eq_false, not_false_eq_true, false_imp_iff, true_imp_iff, forall_const, or_true, true_or, ne_eq, Nat.zero_add, Nat.add_zero, Nat.le_refl, reduceCtorEq, Ft74, e12, l12, e13, l13, e16, l16, t12, and_self]
  refine ⟨rm_g (by decide) (by decide) (by decide) (by decide) (scl_r (by decide) scl_n) (scv_r (by decide) scv_n), by unfold pm_nf3; decide, Or.inr ⟨(scl_r (by decide) scl_n), (scv_r (by decide) (scv_r (by decide) scv_n))⟩, w_x44 (N := 8) (by decide) (by decide) (by decide) (by decide) (by decide) (show SH[12]? = some (0, 4) from rfl) (show SH[13]? = some (1, 8) from rfl) (show SH[14]? = some (1, 8) from rfl) (show SH[15]? = some (1, 8) from rfl) (b0_new q) rfl yy_12 fun I1 L1 R1 c1 k1 => ?_⟩
  have q1 := b0_call (by decide) q c1 k1
  simp only [st_iload_n, st_iload, st_lload_n, st_aload_n, st_aload, st_istore_n, st_istore, st_astore_n, st_astore, st_iconst, st_bipush, st_sipush, st_lconst, st_ldc, st_ldc_w, st_ldc2_w, st_getfield, st_putfieldI, st_putfieldR, st_getstatic, st_iaload, st_iastore, st_baload, st_bastore, st_laload, st_lastore, st_aaload, st_aastore, st_arraylength, st_iadd, st_isub, st_imul, st_iand, st_ior, st_ixor, st_ishl, st_ishr, st_idiv, st_irem, st_ineg, st_land, st_lor, st_lshl, st_i2l, st_l2i, st_i2b, st_i2s, st_i2c, st_lcmp, st_iinc, st_dupI, st_dupR, st_dup2, st_pop, st_goto, st_if_eq, st_icmp_eq, st_if_ne, st_icmp_ne, st_if_lt, st_icmp_lt, st_if_ge, st_icmp_ge, st_if_gt, st_icmp_gt, st_if_le, st_icmp_le, st_tsw, st_lsw, st_newarray, st_anewarray, st_new, st_invokevirtual, st_invokespecial, oin_ref, st_static, st_max, st_min, st_abs, st_copyi, st_copyl, st_ireturn, st_lreturn, st_areturn, st_return, rn_succ, inl_nil, inl_cons, rno_some, oi_some, ol_some, or_some, lk_cons, ins_nil, ins_cons, rm_nil, rm_int, rm_ref, rm_long, pop_0, pop_1, pop_2, pop_3, pop_4, pop_5, pop_6, la_nil, la_int, la_ref, la_long, cat_nil, cat_int, cat_ref, cat_long, call_succ, cont_some, cont_none, rcv_0, rcv_1, rcv_2, rcv_3, rcv_4, rcv_5, rcv_6, rcv_7, rcv_8, rcv_s, rf_some, ret_0, ret_10, ret_11, ret_ite, ite_0, sw_nil, sw_cons, ln_some, isk_some, al_some, ↓reduceIte, Nat.reduceAdd, Nat.reduceEqDiff, Nat.reduceLeDiff, Nat.reduceLT, Int32.reduceLT, Int32.reduceLE, Int32.reduceToNatClampNeg, Int32.reduceOfNat, Int32.reduceAdd, Int32.reduceSub, Int.reduceEq, Int.reduceNeg, Int.reduceLT, Int32.reduceOfInt, Int64.reduceOfInt, Bool.false_eq_true, true_and, and_true, eq_self, not_true_eq_false, not_false_eq_true, false_imp_iff, true_imp_iff, forall_const, or_true, true_or, ne_eq, Nat.zero_add, Nat.add_zero, Nat.le_refl, reduceCtorEq, Ft74, e12, l12, e13, l13, e16, l16, t12, and_self]
  exact h _ _ _ (b0_r (by decide) q1)
theorem w74_4 (q : B0 (fun _ => none) (fun _ => none) 16 ro io I L R)
    (h : ∀ I L R, B0 (fun _ => none) (fun _ => none) 20 (pm_up (ro) 9 (some 16)) (pm_up (io) 7 0) I L R → pm_wp X (d + 3) 74 84 [(0, .ref 0)] [] 19 246 (SH.take 20) I L R Q) : pm_wp X (d + 3) 74 67 [(0, .ref 0)] [] 15 212 (SH.take 16) I L R Q := by
  replace q : B0 (fun _ => none) (fun _ => none) 16 ro (pm_up io 7 0) (pm_up I 0 (pm_up (I 0) 7 0)) L R := mk_i q
  have e16 : (SH.take 16)[0]? = some (0, 7) := (sh_at (by decide)).trans rfl
  have l16 : (SH.take 16).length = 16 := sh_ln (by decide)
  have e17 : (SH.take 17)[0]? = some (0, 7) := (sh_at (by decide)).trans rfl
  have l17 : (SH.take 17).length = 17 := sh_ln (by decide)
  have e20 : (SH.take 20)[0]? = some (0, 7) := (sh_at (by decide)).trans rfl
  have l20 : (SH.take 20).length = 20 := sh_ln (by decide)
  have t16 : SH.take 16 ++ [(0, 4)] = SH.take 17 := sh_tk rfl
  refine pm_gos (n := 60) (stops := [84]) ?_
  simp only [st_iload_n, st_iload, st_lload_n, st_aload_n, st_aload, st_istore_n, st_istore, st_astore_n, st_astore, st_iconst, st_bipush, st_sipush, st_lconst, st_ldc, st_ldc_w, st_ldc2_w, st_getfield, st_putfieldI, st_putfieldR, st_getstatic, st_iaload, st_iastore, st_baload, st_bastore, st_laload, st_lastore, st_aaload, st_aastore, st_arraylength, st_iadd, st_isub, st_imul, st_iand, st_ior, st_ixor, st_ishl, st_ishr, st_idiv, st_irem, st_ineg, st_land, st_lor, st_lshl, st_i2l, st_l2i, st_i2b, st_i2s, st_i2c, st_lcmp, st_iinc, st_dupI, st_dupR, st_dup2, st_pop, st_goto, st_if_eq, st_icmp_eq, st_if_ne, st_icmp_ne, st_if_lt, st_icmp_lt, st_if_ge, st_icmp_ge, st_if_gt, st_icmp_gt, st_if_le, st_icmp_le, st_tsw, st_lsw, st_newarray, st_anewarray, st_new, st_invokevirtual, st_invokespecial, oin_ref, st_static, st_max, st_min, st_abs, st_copyi, st_copyl, st_ireturn, st_lreturn, st_areturn, st_return, rn_succ, inl_nil, inl_cons, rno_some, oi_some, ol_some, or_some, lk_cons, ins_nil, ins_cons, rm_nil, rm_int, rm_ref, rm_long, pop_0, pop_1, pop_2, pop_3, pop_4, pop_5, pop_6, la_nil, la_int, la_ref, la_long, cat_nil, cat_int, cat_ref, cat_long, call_succ, cont_some, cont_none, rcv_0, rcv_1, rcv_2, rcv_3, rcv_4, rcv_5, rcv_6, rcv_7, rcv_8, rcv_s, rf_some, ret_0, ret_10, ret_11, ret_ite, ite_0, sw_nil, sw_cons, ln_some, isk_some, al_some, ↓reduceIte, Nat.reduceAdd, Nat.reduceEqDiff, Nat.reduceLeDiff, Nat.reduceLT, Int32.reduceLT, Int32.reduceLE, Int32.reduceToNatClampNeg, Int32.reduceOfNat, Int32.reduceAdd, Int32.reduceSub, Int.reduceEq, Int.reduceNeg, Int.reduceLT, Int32.reduceOfInt, Int64.reduceOfInt, Bool.false_eq_true, true_and, and_true, eq_self, not_true_eq_false, not_false_eq_true, false_imp_iff, true_imp_iff, forall_const, or_true, true_or, ne_eq, Nat.zero_add, Nat.add_zero, Nat.le_refl, reduceCtorEq, Ft74, e16, l16, e17, l17, e20, l20, t16, and_self]
  refine ⟨rm_g (by decide) (by decide) (by decide) (by decide) (scl_r (by decide) scl_n) (scv_r (by decide) scv_n), by unfold pm_nf3; decide, Or.inr ⟨(scl_r (by decide) scl_n), (scv_r (by decide) (scv_r (by decide) scv_n))⟩, w_x44 (N := 5) (by decide) (by decide) (by decide) (by decide) (by decide) (show SH[16]? = some (0, 4) from rfl) (show SH[17]? = some (1, 5) from rfl) (show SH[18]? = some (1, 5) from rfl) (show SH[19]? = some (1, 5) from rfl) (b0_new q) rfl yy_16 fun I1 L1 R1 c1 k1 => ?_⟩
  have q1 := b0_call (by decide) q c1 k1
  simp only [st_iload_n, st_iload, st_lload_n, st_aload_n, st_aload, st_istore_n, st_istore, st_astore_n, st_astore, st_iconst, st_bipush, st_sipush, st_lconst, st_ldc, st_ldc_w, st_ldc2_w, st_getfield, st_putfieldI, st_putfieldR, st_getstatic, st_iaload, st_iastore, st_baload, st_bastore, st_laload, st_lastore, st_aaload, st_aastore, st_arraylength, st_iadd, st_isub, st_imul, st_iand, st_ior, st_ixor, st_ishl, st_ishr, st_idiv, st_irem, st_ineg, st_land, st_lor, st_lshl, st_i2l, st_l2i, st_i2b, st_i2s, st_i2c, st_lcmp, st_iinc, st_dupI, st_dupR, st_dup2, st_pop, st_goto, st_if_eq, st_icmp_eq, st_if_ne, st_icmp_ne, st_if_lt, st_icmp_lt, st_if_ge, st_icmp_ge, st_if_gt, st_icmp_gt, st_if_le, st_icmp_le, st_tsw, st_lsw, st_newarray, st_anewarray, st_new, st_invokevirtual, st_invokespecial, oin_ref, st_static, st_max, st_min, st_abs, st_copyi, st_copyl, st_ireturn, st_lreturn, st_areturn, st_return, rn_succ, inl_nil, inl_cons, rno_some, oi_some, ol_some, or_some, lk_cons, ins_nil, ins_cons, rm_nil, rm_int, rm_ref, rm_long, pop_0, pop_1, pop_2, pop_3, pop_4, pop_5, pop_6, la_nil, la_int, la_ref, la_long, cat_nil, cat_int, cat_ref, cat_long, call_succ, cont_some, cont_none, rcv_0, rcv_1, rcv_2, rcv_3, rcv_4, rcv_5, rcv_6, rcv_7, rcv_8, rcv_s, rf_some, ret_0, ret_10, ret_11, ret_ite, ite_0, sw_nil, sw_cons, ln_some, isk_some, al_some, ↓reduceIte, Nat.reduceAdd, Nat.reduceEqDiff, Nat.reduceLeDiff, Nat.reduceLT, Int32.reduceLT, Int32.reduceLE, Int32.reduceToNatClampNeg, Int32.reduceOfNat, Int32.reduceAdd, Int32.reduceSub, Int.reduceEq, Int.reduceNeg, Int.reduceLT, Int32.reduceOfInt, Int64.reduceOfInt, Bool.false_eq_true, true_and, and_true, eq_self, not_true_eq_false, not_false_eq_true, false_imp_iff, true_imp_iff, forall_const, or_true, true_or, ne_eq, Nat.zero_add, Nat.add_zero, Nat.le_refl, reduceCtorEq, Ft74, e16, l16, e17, l17, e20, l20, t16, and_self]
  exact h _ _ _ (b0_r (by decide) q1)
theorem w74_5 (q : B0 (fun _ => none) (fun _ => none) 20 ro io I L R)
    (h : ∀ I L R, B0 (fun _ => none) (fun _ => none) 24 (pm_up (ro) 10 (some 20)) (io) I L R → pm_wp X (d + 3) 74 97 [(0, .ref 0)] [] 23 280 (SH.take 24) I L R Q) : pm_wp X (d + 3) 74 84 [(0, .ref 0)] [] 19 246 (SH.take 20) I L R Q := by
  have e20 : (SH.take 20)[0]? = some (0, 7) := (sh_at (by decide)).trans rfl
  have l20 : (SH.take 20).length = 20 := sh_ln (by decide)
  have e21 : (SH.take 21)[0]? = some (0, 7) := (sh_at (by decide)).trans rfl
  have l21 : (SH.take 21).length = 21 := sh_ln (by decide)
  have e24 : (SH.take 24)[0]? = some (0, 7) := (sh_at (by decide)).trans rfl
  have l24 : (SH.take 24).length = 24 := sh_ln (by decide)
  have t20 : SH.take 20 ++ [(0, 4)] = SH.take 21 := sh_tk rfl
  refine pm_gos (n := 60) (stops := [97]) ?_
  simp only [st_iload_n, st_iload, st_lload_n, st_aload_n, st_aload, st_istore_n, st_istore, st_astore_n, st_astore, st_iconst, st_bipush, st_sipush, st_lconst, st_ldc, st_ldc_w, st_ldc2_w, st_getfield, st_putfieldI, st_putfieldR, st_getstatic, st_iaload, st_iastore, st_baload, st_bastore, st_laload, st_lastore, st_aaload, st_aastore, st_arraylength, st_iadd, st_isub, st_imul, st_iand, st_ior, st_ixor, st_ishl, st_ishr, st_idiv, st_irem, st_ineg, st_land, st_lor, st_lshl, st_i2l, st_l2i, st_i2b, st_i2s, st_i2c, st_lcmp, st_iinc, st_dupI, st_dupR, st_dup2, st_pop, st_goto, st_if_eq, st_icmp_eq, st_if_ne, st_icmp_ne, st_if_lt, st_icmp_lt, st_if_ge, st_icmp_ge, st_if_gt, st_icmp_gt, st_if_le, st_icmp_le, st_tsw, st_lsw, st_newarray, st_anewarray, st_new, st_invokevirtual, st_invokespecial, oin_ref, st_static, st_max, st_min, st_abs, st_copyi, st_copyl, st_ireturn, st_lreturn, st_areturn, st_return, rn_succ, inl_nil, inl_cons, rno_some, oi_some, ol_some, or_some, lk_cons, ins_nil, ins_cons, rm_nil, rm_int, rm_ref, rm_long, pop_0, pop_1, pop_2, pop_3, pop_4, pop_5, pop_6, la_nil, la_int, la_ref, la_long, cat_nil, cat_int, cat_ref, cat_long, call_succ, cont_some, cont_none, rcv_0, rcv_1, rcv_2, rcv_3, rcv_4, rcv_5, rcv_6, rcv_7, rcv_8, rcv_s, rf_some, ret_0, ret_10, ret_11, ret_ite, ite_0, sw_nil, sw_cons, ln_some, isk_some, al_some, ↓reduceIte, Nat.reduceAdd, Nat.reduceEqDiff, Nat.reduceLeDiff, Nat.reduceLT, Int32.reduceLT, Int32.reduceLE, Int32.reduceToNatClampNeg, Int32.reduceOfNat, Int32.reduceAdd, Int32.reduceSub, Int.reduceEq, Int.reduceNeg, Int.reduceLT, Int32.reduceOfInt, Int64.reduceOfInt, Bool.false_eq_true, true_and, and_true, eq_self, not_true_eq_false, not_false_eq_true, false_imp_iff, true_imp_iff, forall_const, or_true, true_or, ne_eq, Nat.zero_add, Nat.add_zero, Nat.le_refl, reduceCtorEq, Ft74, e20, l20, e21, l21, e24, l24, t20, and_self]
  refine ⟨rm_g (by decide) (by decide) (by decide) (by decide) (scl_r (by decide) scl_n) (scv_r (by decide) scv_n), by unfold pm_nf3; decide, Or.inr ⟨(scl_r (by decide) scl_n), (scv_r (by decide) (scv_r (by decide) scv_n))⟩, w_x44 (N := 10) (by decide) (by decide) (by decide) (by decide) (by decide) (show SH[20]? = some (0, 4) from rfl) (show SH[21]? = some (1, 10) from rfl) (show SH[22]? = some (1, 10) from rfl) (show SH[23]? = some (1, 10) from rfl) (b0_new q) rfl yy_20 fun I1 L1 R1 c1 k1 => ?_⟩
  have q1 := b0_call (by decide) q c1 k1
  simp only [st_iload_n, st_iload, st_lload_n, st_aload_n, st_aload, st_istore_n, st_istore, st_astore_n, st_astore, st_iconst, st_bipush, st_sipush, st_lconst, st_ldc, st_ldc_w, st_ldc2_w, st_getfield, st_putfieldI, st_putfieldR, st_getstatic, st_iaload, st_iastore, st_baload, st_bastore, st_laload, st_lastore, st_aaload, st_aastore, st_arraylength, st_iadd, st_isub, st_imul, st_iand, st_ior, st_ixor, st_ishl, st_ishr, st_idiv, st_irem, st_ineg, st_land, st_lor, st_lshl, st_i2l, st_l2i, st_i2b, st_i2s, st_i2c, st_lcmp, st_iinc, st_dupI, st_dupR, st_dup2, st_pop, st_goto, st_if_eq, st_icmp_eq, st_if_ne, st_icmp_ne, st_if_lt, st_icmp_lt, st_if_ge, st_icmp_ge, st_if_gt, st_icmp_gt, st_if_le, st_icmp_le, st_tsw, st_lsw, st_newarray, st_anewarray, st_new, st_invokevirtual, st_invokespecial, oin_ref, st_static, st_max, st_min, st_abs, st_copyi, st_copyl, st_ireturn, st_lreturn, st_areturn, st_return, rn_succ, inl_nil, inl_cons, rno_some, oi_some, ol_some, or_some, lk_cons, ins_nil, ins_cons, rm_nil, rm_int, rm_ref, rm_long, pop_0, pop_1, pop_2, pop_3, pop_4, pop_5, pop_6, la_nil, la_int, la_ref, la_long, cat_nil, cat_int, cat_ref, cat_long, call_succ, cont_some, cont_none, rcv_0, rcv_1, rcv_2, rcv_3, rcv_4, rcv_5, rcv_6, rcv_7, rcv_8, rcv_s, rf_some, ret_0, ret_10, ret_11, ret_ite, ite_0, sw_nil, sw_cons, ln_some, isk_some, al_some, ↓reduceIte, Nat.reduceAdd, Nat.reduceEqDiff, Nat.reduceLeDiff, Nat.reduceLT, Int32.reduceLT, Int32.reduceLE, Int32.reduceToNatClampNeg, Int32.reduceOfNat, Int32.reduceAdd, Int32.reduceSub, Int.reduceEq, Int.reduceNeg, Int.reduceLT, Int32.reduceOfInt, Int64.reduceOfInt, Bool.false_eq_true, true_and, and_true, eq_self, not_true_eq_false, not_false_eq_true, false_imp_iff, true_imp_iff, forall_const, or_true, true_or, ne_eq, Nat.zero_add, Nat.add_zero, Nat.le_refl, reduceCtorEq, Ft74, e20, l20, e21, l21, e24, l24, t20, and_self]
  exact h _ _ _ (b0_r (by decide) q1)
theorem w74_6 (q : B0 (fun _ => none) (fun _ => none) 24 ro io I L R)
    (h : ∀ I L R, B0 (fun _ => none) (fun _ => none) 28 (pm_up (ro) 11 (some 24)) (io) I L R → pm_wp X (d + 3) 74 110 [(0, .ref 0)] [] 27 314 (SH.take 28) I L R Q) : pm_wp X (d + 3) 74 97 [(0, .ref 0)] [] 23 280 (SH.take 24) I L R Q := by
  have e24 : (SH.take 24)[0]? = some (0, 7) := (sh_at (by decide)).trans rfl
  have l24 : (SH.take 24).length = 24 := sh_ln (by decide)
  have e25 : (SH.take 25)[0]? = some (0, 7) := (sh_at (by decide)).trans rfl
  have l25 : (SH.take 25).length = 25 := sh_ln (by decide)
  have e28 : (SH.take 28)[0]? = some (0, 7) := (sh_at (by decide)).trans rfl
  have l28 : (SH.take 28).length = 28 := sh_ln (by decide)
  have t24 : SH.take 24 ++ [(0, 4)] = SH.take 25 := sh_tk rfl
  refine pm_gos (n := 60) (stops := [110]) ?_
  simp only [st_iload_n, st_iload, st_lload_n, st_aload_n, st_aload, st_istore_n, st_istore, st_astore_n, st_astore, st_iconst, st_bipush, st_sipush, st_lconst, st_ldc, st_ldc_w, st_ldc2_w, st_getfield, st_putfieldI, st_putfieldR, st_getstatic, st_iaload, st_iastore, st_baload, st_bastore, st_laload, st_lastore, st_aaload, st_aastore, st_arraylength, st_iadd, st_isub, st_imul, st_iand, st_ior, st_ixor, st_ishl, st_ishr, st_idiv, st_irem, st_ineg, st_land, st_lor, st_lshl, st_i2l, st_l2i, st_i2b, st_i2s, st_i2c, st_lcmp, st_iinc, st_dupI, st_dupR, st_dup2, st_pop, st_goto, st_if_eq, st_icmp_eq, st_if_ne, st_icmp_ne, st_if_lt, st_icmp_lt, st_if_ge, st_icmp_ge, st_if_gt, st_icmp_gt, st_if_le, st_icmp_le, st_tsw, st_lsw, st_newarray, st_anewarray, st_new, st_invokevirtual, st_invokespecial, oin_ref, st_static, st_max, st_min, st_abs, st_copyi, st_copyl, st_ireturn, st_lreturn, st_areturn, st_return, rn_succ, inl_nil, inl_cons, rno_some, oi_some, ol_some, or_some, lk_cons, ins_nil, ins_cons, rm_nil, rm_int, rm_ref, rm_long, pop_0, pop_1, pop_2, pop_3, pop_4, pop_5, pop_6, la_nil, la_int, la_ref, la_long, cat_nil, cat_int, cat_ref, cat_long, call_succ, cont_some, cont_none, rcv_0, rcv_1, rcv_2, rcv_3, rcv_4, rcv_5, rcv_6, rcv_7, rcv_8, rcv_s, rf_some, ret_0, ret_10, ret_11, ret_ite, ite_0, sw_nil, sw_cons, ln_some, isk_some, al_some, ↓reduceIte, Nat.reduceAdd, Nat.reduceEqDiff, Nat.reduceLeDiff, Nat.reduceLT, Int32.reduceLT, Int32.reduceLE, Int32.reduceToNatClampNeg, Int32.reduceOfNat, Int32.reduceAdd, Int32.reduceSub, Int.reduceEq, Int.reduceNeg, Int.reduceLT, Int32.reduceOfInt, Int64.reduceOfInt, Bool.false_eq_true, true_and, and_true, eq_self, not_true_eq_false, not_false_eq_true, false_imp_iff, true_imp_iff, forall_const, or_true, true_or, ne_eq, Nat.zero_add, Nat.add_zero, Nat.le_refl, reduceCtorEq, Ft74, e24, l24, e25, l25, e28, l28, t24, and_self]
  refine ⟨rm_g (by decide) (by decide) (by decide) (by decide) (scl_r (by decide) scl_n) (scv_r (by decide) scv_n), by unfold pm_nf3; decide, Or.inr ⟨(scl_r (by decide) scl_n), (scv_r (by decide) (scv_r (by decide) scv_n))⟩, w_x44 (N := 8) (by decide) (by decide) (by decide) (by decide) (by decide) (show SH[24]? = some (0, 4) from rfl) (show SH[25]? = some (1, 8) from rfl) (show SH[26]? = some (1, 8) from rfl) (show SH[27]? = some (1, 8) from rfl) (b0_new q) rfl yy_24 fun I1 L1 R1 c1 k1 => ?_⟩
  have q1 := b0_call (by decide) q c1 k1
  simp only [st_iload_n, st_iload, st_lload_n, st_aload_n, st_aload, st_istore_n, st_istore, st_astore_n, st_astore, st_iconst, st_bipush, st_sipush, st_lconst, st_ldc, st_ldc_w, st_ldc2_w, st_getfield, st_putfieldI, st_putfieldR, st_getstatic, st_iaload, st_iastore, st_baload, st_bastore, st_laload, st_lastore, st_aaload, st_aastore, st_arraylength, st_iadd, st_isub, st_imul, st_iand, st_ior, st_ixor, st_ishl, st_ishr, st_idiv, st_irem, st_ineg, st_land, st_lor, st_lshl, st_i2l, st_l2i, st_i2b, st_i2s, st_i2c, st_lcmp, st_iinc, st_dupI, st_dupR, st_dup2, st_pop, st_goto, st_if_eq, st_icmp_eq, st_if_ne, st_icmp_ne, st_if_lt, st_icmp_lt, st_if_ge, st_icmp_ge, st_if_gt, st_icmp_gt, st_if_le, st_icmp_le, st_tsw, st_lsw, st_newarray, st_anewarray, st_new, st_invokevirtual, st_invokespecial, oin_ref, st_static, st_max, st_min, st_abs, st_copyi, st_copyl, st_ireturn, st_lreturn, st_areturn, st_return, rn_succ, inl_nil, inl_cons, rno_some, oi_some, ol_some, or_some, lk_cons, ins_nil, ins_cons, rm_nil, rm_int, rm_ref, rm_long, pop_0, pop_1, pop_2, pop_3, pop_4, pop_5, pop_6, la_nil, la_int, la_ref, la_long, cat_nil, cat_int, cat_ref, cat_long, call_succ, cont_some, cont_none, rcv_0, rcv_1, rcv_2, rcv_3, rcv_4, rcv_5, rcv_6, rcv_7, rcv_8, rcv_s, rf_some, ret_0, ret_10, ret_11, ret_ite, ite_0, sw_nil, sw_cons, ln_some, isk_some, al_some, ↓reduceIte, Nat.reduceAdd, Nat.reduceEqDiff, Nat.reduceLeDiff, Nat.reduceLT, Int32.reduceLT, Int32.reduceLE, Int32.reduceToNatClampNeg, Int32.reduceOfNat, Int32.reduceAdd, Int32.reduceSub, Int.reduceEq, Int.reduceNeg, Int.reduceLT, Int32.reduceOfInt, Int64.reduceOfInt, Bool.false_eq_true, true_and, and_true, eq_self, not_true_eq_false, not_false_eq_true, false_imp_iff, true_imp_iff, forall_const, or_true, true_or, ne_eq, Nat.zero_add, Nat.add_zero, Nat.le_refl, reduceCtorEq, Ft74, e24, l24, e25, l25, e28, l28, t24, and_self]
  exact h _ _ _ (b0_r (by decide) q1)
theorem w74_7 (q : B0 (fun _ => none) (fun _ => none) 28 ro io I L R)
    (h : ∀ I L R, B0 (fun _ => none) (fun _ => none) 30 (pm_up (ro) 13 (some 28)) (io) I L R → pm_wp X (d + 3) 74 121 [(0, .ref 0)] [] 29 339 (SH.take 30) I L R Q) : pm_wp X (d + 3) 74 110 [(0, .ref 0)] [] 27 314 (SH.take 28) I L R Q := by
  have e28 : (SH.take 28)[0]? = some (0, 7) := (sh_at (by decide)).trans rfl
  have l28 : (SH.take 28).length = 28 := sh_ln (by decide)
  have e29 : (SH.take 29)[0]? = some (0, 7) := (sh_at (by decide)).trans rfl
  have l29 : (SH.take 29).length = 29 := sh_ln (by decide)
  have e30 : (SH.take 30)[0]? = some (0, 7) := (sh_at (by decide)).trans rfl
  have l30 : (SH.take 30).length = 30 := sh_ln (by decide)
  have t28 : SH.take 28 ++ [(0, 0)] = SH.take 29 := sh_tk rfl
  refine pm_gos (n := 60) (stops := [121]) ?_
  simp only [st_iload_n, st_iload, st_lload_n, st_aload_n, st_aload, st_istore_n, st_istore, st_astore_n, st_astore, st_iconst, st_bipush, st_sipush, st_lconst, st_ldc, st_ldc_w, st_ldc2_w, st_getfield, st_putfieldI, st_putfieldR, st_getstatic, st_iaload, st_iastore, st_baload, st_bastore, st_laload, st_lastore, st_aaload, st_aastore, st_arraylength, st_iadd, st_isub, st_imul, st_iand, st_ior, st_ixor, st_ishl, st_ishr, st_idiv, st_irem, st_ineg, st_land, st_lor, st_lshl, st_i2l, st_l2i, st_i2b, st_i2s, st_i2c, st_lcmp, st_iinc, st_dupI, st_dupR, st_dup2, st_pop, st_goto, st_if_eq, st_icmp_eq, st_if_ne, st_icmp_ne, st_if_lt, st_icmp_lt, st_if_ge, st_icmp_ge, st_if_gt, st_icmp_gt, st_if_le, st_icmp_le, st_tsw, st_lsw, st_newarray, st_anewarray, st_new, st_invokevirtual, st_invokespecial, oin_ref, st_static, st_max, st_min, st_abs, st_copyi, st_copyl, st_ireturn, st_lreturn, st_areturn, st_return, rn_succ, inl_nil, inl_cons, rno_some, oi_some, ol_some, or_some, lk_cons, ins_nil, ins_cons, rm_nil, rm_int, rm_ref, rm_long, pop_0, pop_1, pop_2, pop_3, pop_4, pop_5, pop_6, la_nil, la_int, la_ref, la_long, cat_nil, cat_int, cat_ref, cat_long, call_succ, cont_some, cont_none, rcv_0, rcv_1, rcv_2, rcv_3, rcv_4, rcv_5, rcv_6, rcv_7, rcv_8, rcv_s, rf_some, ret_0, ret_10, ret_11, ret_ite, ite_0, sw_nil, sw_cons, ln_some, isk_some, al_some, ↓reduceIte, Nat.reduceAdd, Nat.reduceEqDiff, Nat.reduceLeDiff, Nat.reduceLT, Int32.reduceLT, Int32.reduceLE, Int32.reduceToNatClampNeg, Int32.reduceOfNat, Int32.reduceAdd, Int32.reduceSub, Int.reduceEq, Int.reduceNeg, Int.reduceLT, Int32.reduceOfInt, Int64.reduceOfInt, Bool.false_eq_true, true_and, and_true, eq_self, not_true_eq_false, not_false_eq_true, false_imp_iff, true_imp_iff, forall_const, or_true, true_or, ne_eq, Nat.zero_add, Nat.add_zero, Nat.le_refl, reduceCtorEq, Ft74, e28, l28, e29, l29, e30, l30, t28, and_self]
  refine ⟨rm_g (by decide) (by decide) (by decide) (by decide) (scl_r (by decide) scl_n) (scv_r (by decide) scv_n), by unfold pm_nf3; decide, Or.inr ⟨(scl_r (by decide) scl_n), (scv_r (by decide) (scv_r (by decide) scv_n))⟩, w_x0 (by decide) (by decide) (by decide) (show SH[28]? = some (0, 0) from rfl) (show SH[29]? = some (1, 20) from rfl) (b0_new q) rfl yy_28 fun I1 L1 R1 c1 k1 => ?_⟩
  have q1 := b0_call (by decide) q c1 k1
  simp only [st_iload_n, st_iload, st_lload_n, st_aload_n, st_aload, st_istore_n, st_istore, st_astore_n, st_astore, st_iconst, st_bipush, st_sipush, st_lconst, st_ldc, st_ldc_w, st_ldc2_w, st_getfield, st_putfieldI, st_putfieldR, st_getstatic, st_iaload, st_iastore, st_baload, st_bastore, st_laload, st_lastore, st_aaload, st_aastore, st_arraylength, st_iadd, st_isub, st_imul, st_iand, st_ior, st_ixor, st_ishl, st_ishr, st_idiv, st_irem, st_ineg, st_land, st_lor, st_lshl, st_i2l, st_l2i, st_i2b, st_i2s, st_i2c, st_lcmp, st_iinc, st_dupI, st_dupR, st_dup2, st_pop, st_goto, st_if_eq, st_icmp_eq, st_if_ne, st_icmp_ne, st_if_lt, st_icmp_lt, st_if_ge, st_icmp_ge, st_if_gt, st_icmp_gt, st_if_le, st_icmp_le, st_tsw, st_lsw, st_newarray, st_anewarray, st_new, st_invokevirtual, st_invokespecial, oin_ref, st_static, st_max, st_min, st_abs, st_copyi, st_copyl, st_ireturn, st_lreturn, st_areturn, st_return, rn_succ, inl_nil, inl_cons, rno_some, oi_some, ol_some, or_some, lk_cons, ins_nil, ins_cons, rm_nil, rm_int, rm_ref, rm_long, pop_0, pop_1, pop_2, pop_3, pop_4, pop_5, pop_6, la_nil, la_int, la_ref, la_long, cat_nil, cat_int, cat_ref, cat_long, call_succ, cont_some, cont_none, rcv_0, rcv_1, rcv_2, rcv_3, rcv_4, rcv_5, rcv_6, rcv_7, rcv_8, rcv_s, rf_some, ret_0, ret_10, ret_11, ret_ite, ite_0, sw_nil, sw_cons, ln_some, isk_some, al_some, ↓reduceIte, Nat.reduceAdd, Nat.reduceEqDiff, Nat.reduceLeDiff, Nat.reduceLT, Int32.reduceLT, Int32.reduceLE, Int32.reduceToNatClampNeg, Int32.reduceOfNat, Int32.reduceAdd, Int32.reduceSub, Int.reduceEq, Int.reduceNeg, Int.reduceLT, Int32.reduceOfInt, Int64.reduceOfInt, Bool.false_eq_true, true_and, and_true, eq_self, not_true_eq_false, not_false_eq_true, false_imp_iff, true_imp_iff, forall_const, or_true, true_or, ne_eq, Nat.zero_add, Nat.add_zero, Nat.le_refl, reduceCtorEq, Ft74, e28, l28, e29, l29, e30, l30, t28, and_self]
  exact h _ _ _ (b0_r (by decide) q1)
theorem w74_b (q : B0 (fun _ => none) (fun _ => none) 30 ro io I L R)
    (h : ∀ I L R, B0 (fun _ => none) (fun _ => none) 31 (pm_up (ro) 14 (some 30)) (io) I L R → pm_wp X (d + 3) 74 130 [(0, .ref 0)] [] 30 345 (SH.take 31) I L R Q) : pm_wp X (d + 3) 74 121 [(0, .ref 0)] [] 29 339 (SH.take 30) I L R Q := by
  have e30 : (SH.take 30)[0]? = some (0, 7) := (sh_at (by decide)).trans rfl
  have l30 : (SH.take 30).length = 30 := sh_ln (by decide)
  have e31 : (SH.take 31)[0]? = some (0, 7) := (sh_at (by decide)).trans rfl
  have l31 : (SH.take 31).length = 31 := sh_ln (by decide)
  have t30 : SH.take 30 ++ [(10, 6)] = SH.take 31 := sh_tk rfl
  refine pm_gos (n := 60) (stops := [130]) ?_
  simp only [st_iload_n, st_iload, st_lload_n, st_aload_n, st_aload, st_istore_n, st_istore, st_astore_n, st_astore, st_iconst, st_bipush, st_sipush, st_lconst, st_ldc, st_ldc_w, st_ldc2_w, st_getfield, st_putfieldI, st_putfieldR, st_getstatic, st_iaload, st_iastore, st_baload, st_bastore, st_laload, st_lastore, st_aaload, st_aastore, st_arraylength, st_iadd, st_isub, st_imul, st_iand, st_ior, st_ixor, st_ishl, st_ishr, st_idiv, st_irem, st_ineg, st_land, st_lor, st_lshl, st_i2l, st_l2i, st_i2b, st_i2s, st_i2c, st_lcmp, st_iinc, st_dupI, st_dupR, st_dup2, st_pop, st_goto, st_if_eq, st_icmp_eq, st_if_ne, st_icmp_ne, st_if_lt, st_icmp_lt, st_if_ge, st_icmp_ge, st_if_gt, st_icmp_gt, st_if_le, st_icmp_le, st_tsw, st_lsw, st_newarray, st_anewarray, st_new, st_invokevirtual, st_invokespecial, oin_ref, st_static, st_max, st_min, st_abs, st_copyi, st_copyl, st_ireturn, st_lreturn, st_areturn, st_return, rn_succ, inl_nil, inl_cons, rno_some, oi_some, ol_some, or_some, lk_cons, ins_nil, ins_cons, rm_nil, rm_int, rm_ref, rm_long, pop_0, pop_1, pop_2, pop_3, pop_4, pop_5, pop_6, la_nil, la_int, la_ref, la_long, cat_nil, cat_int, cat_ref, cat_long, call_succ, cont_some, cont_none, rcv_0, rcv_1, rcv_2, rcv_3, rcv_4, rcv_5, rcv_6, rcv_7, rcv_8, rcv_s, rf_some, ret_0, ret_10, ret_11, ret_ite, ite_0, sw_nil, sw_cons, ln_some, isk_some, al_some, ↓reduceIte, Nat.reduceAdd, Nat.reduceEqDiff, Nat.reduceLeDiff, Nat.reduceLT, Int32.reduceLT, Int32.reduceLE, Int32.reduceToNatClampNeg, Int32.reduceOfNat, Int32.reduceAdd, Int32.reduceSub, Int.reduceEq, Int.reduceNeg, Int.reduceLT, Int32.reduceOfInt, Int64.reduceOfInt, Bool.false_eq_true, true_and, and_true, eq_self, not_true_eq_false, not_false_eq_true, false_imp_iff, true_imp_iff, forall_const, or_true, true_or, ne_eq, Nat.zero_add, Nat.add_zero, Nat.le_refl, reduceCtorEq, Ft74, e30, l30, e31, l31, t30]
  refine ⟨rm_g (by decide) (by decide) (by decide) (by decide) (scl_r (by decide) scl_n) (scv_r (by decide) scv_n), h _ _ _ ?_⟩
  exact mk_ax (F := 14) (f := fun _ => 0) (by decide) (by decide) rfl rfl q
theorem w74_c (q : B0 (fun _ => none) (fun _ => none) 31 ro io I L R)
    (h : ∀ I L R, B0 (fun _ => none) (fun _ => none) 37 (ro) (io) I L R → pm_wp X (d + 3) 74 138 [(0, .ref 0), (1, .ref 31)] [] 36 675 (SH.take 37) I L R Q) : pm_wp X (d + 3) 74 130 [(0, .ref 0)] [] 30 345 (SH.take 31) I L R Q := by
  have e31 : (SH.take 31)[0]? = some (0, 7) := (sh_at (by decide)).trans rfl
  have l31 : (SH.take 31).length = 31 := sh_ln (by decide)
  have e32 : (SH.take 32)[0]? = some (0, 7) := (sh_at (by decide)).trans rfl
  have l32 : (SH.take 32).length = 32 := sh_ln (by decide)
  have e37 : (SH.take 37)[0]? = some (0, 7) := (sh_at (by decide)).trans rfl
  have l37 : (SH.take 37).length = 37 := sh_ln (by decide)
  have t31 : SH.take 31 ++ [(0, 2)] = SH.take 32 := sh_tk rfl
  refine pm_gos (n := 60) (stops := [138]) ?_
  simp only [st_iload_n, st_iload, st_lload_n, st_aload_n, st_aload, st_istore_n, st_istore, st_astore_n, st_astore, st_iconst, st_bipush, st_sipush, st_lconst, st_ldc, st_ldc_w, st_ldc2_w, st_getfield, st_putfieldI, st_putfieldR, st_getstatic, st_iaload, st_iastore, st_baload, st_bastore, st_laload, st_lastore, st_aaload, st_aastore, st_arraylength, st_iadd, st_isub, st_imul, st_iand, st_ior, st_ixor, st_ishl, st_ishr, st_idiv, st_irem, st_ineg, st_land, st_lor, st_lshl, st_i2l, st_l2i, st_i2b, st_i2s, st_i2c, st_lcmp, st_iinc, st_dupI, st_dupR, st_dup2, st_pop, st_goto, st_if_eq, st_icmp_eq, st_if_ne, st_icmp_ne, st_if_lt, st_icmp_lt, st_if_ge, st_icmp_ge, st_if_gt, st_icmp_gt, st_if_le, st_icmp_le, st_tsw, st_lsw, st_newarray, st_anewarray, st_new, st_invokevirtual, st_invokespecial, oin_ref, st_static, st_max, st_min, st_abs, st_copyi, st_copyl, st_ireturn, st_lreturn, st_areturn, st_return, rn_succ, inl_nil, inl_cons, rno_some, oi_some, ol_some, or_some, lk_cons, ins_nil, ins_cons, rm_nil, rm_int, rm_ref, rm_long, pop_0, pop_1, pop_2, pop_3, pop_4, pop_5, pop_6, la_nil, la_int, la_ref, la_long, cat_nil, cat_int, cat_ref, cat_long, call_succ, cont_some, cont_none, rcv_0, rcv_1, rcv_2, rcv_3, rcv_4, rcv_5, rcv_6, rcv_7, rcv_8, rcv_s, rf_some, ret_0, ret_10, ret_11, ret_ite, ite_0, sw_nil, sw_cons, ln_some, isk_some, al_some, ↓reduceIte, Nat.reduceAdd, Nat.reduceEqDiff, Nat.reduceLeDiff, Nat.reduceLT, Int32.reduceLT, Int32.reduceLE, Int32.reduceToNatClampNeg, Int32.reduceOfNat, Int32.reduceAdd, Int32.reduceSub, Int.reduceEq, Int.reduceNeg, Int.reduceLT, Int32.reduceOfInt, Int64.reduceOfInt, Bool.false_eq_true, true_and, and_true, eq_self, not_true_eq_false, not_false_eq_true, false_imp_iff, true_imp_iff, forall_const, or_true, true_or, ne_eq, Nat.zero_add, Nat.add_zero, Nat.le_refl, reduceCtorEq, Ft74, e31, l31, e32, l32, e37, l37, t31, and_self]
  refine ⟨rm_g (by decide) (by decide) (by decide) (by decide) (scl_r (by decide) scl_n) scv_n, by unfold pm_nf3; decide, Or.inr ⟨(scl_r (by decide) scl_n), (scv_r (by decide) scv_n)⟩, w_x22 (by decide) (by decide) (by decide) (show SH[31]? = some (0, 2) from rfl) (show SH[32]? = some (1, 10) from rfl) (show SH[33]? = some (1, 10) from rfl) (show SH[34]? = some (1, 100) from rfl) (show SH[35]? = some (1, 100) from rfl) (show SH[36]? = some (1, 100) from rfl) (b0_new q) (k_x0 (by decide)) yy_31 fun I1 L1 R1 c1 k1 => ?_⟩
  have q1 := b0_call (by decide) q c1 k1
  simp only [st_iload_n, st_iload, st_lload_n, st_aload_n, st_aload, st_istore_n, st_istore, st_astore_n, st_astore, st_iconst, st_bipush, st_sipush, st_lconst, st_ldc, st_ldc_w, st_ldc2_w, st_getfield, st_putfieldI, st_putfieldR, st_getstatic, st_iaload, st_iastore, st_baload, st_bastore, st_laload, st_lastore, st_aaload, st_aastore, st_arraylength, st_iadd, st_isub, st_imul, st_iand, st_ior, st_ixor, st_ishl, st_ishr, st_idiv, st_irem, st_ineg, st_land, st_lor, st_lshl, st_i2l, st_l2i, st_i2b, st_i2s, st_i2c, st_lcmp, st_iinc, st_dupI, st_dupR, st_dup2, st_pop, st_goto, st_if_eq, st_icmp_eq, st_if_ne, st_icmp_ne, st_if_lt, st_icmp_lt, st_if_ge, st_icmp_ge, st_if_gt, st_icmp_gt, st_if_le, st_icmp_le, st_tsw, st_lsw, st_newarray, st_anewarray, st_new, st_invokevirtual, st_invokespecial, oin_ref, st_static, st_max, st_min, st_abs, st_copyi, st_copyl, st_ireturn, st_lreturn, st_areturn, st_return, rn_succ, inl_nil, inl_cons, rno_some, oi_some, ol_some, or_some, lk_cons, ins_nil, ins_cons, rm_nil, rm_int, rm_ref, rm_long, pop_0, pop_1, pop_2, pop_3, pop_4, pop_5, pop_6, la_nil, la_int, la_ref, la_long, cat_nil, cat_int, cat_ref, cat_long, call_succ, cont_some, cont_none, rcv_0, rcv_1, rcv_2, rcv_3, rcv_4, rcv_5, rcv_6, rcv_7, rcv_8, rcv_s, rf_some, ret_0, ret_10, ret_11, ret_ite, ite_0, sw_nil, sw_cons, ln_some, isk_some, al_some, ↓reduceIte, Nat.reduceAdd, Nat.reduceEqDiff, Nat.reduceLeDiff, Nat.reduceLT, Int32.reduceLT, Int32.reduceLE, Int32.reduceToNatClampNeg, Int32.reduceOfNat, Int32.reduceAdd, Int32.reduceSub, Int.reduceEq, Int.reduceNeg, Int.reduceLT, Int32.reduceOfInt, Int64.reduceOfInt, Bool.false_eq_true, true_and, and_true, eq_self, not_true_eq_false, not_false_eq_true, false_imp_iff, true_imp_iff, forall_const, or_true, true_or, ne_eq, Nat.zero_add, Nat.add_zero, Nat.le_refl, reduceCtorEq, Ft74, e31, l31, e32, l32, e37, l37, t31, and_self]
  exact h _ _ _ q1
theorem w74_d (q : B0 (fun _ => none) (fun _ => none) 37 ro io I L R)
    (h : ∀ I L R, B0 (fun _ => none) (fun _ => none) 49 (pm_up (ro) 3 (some 37)) (io) I L R → pm_wp X (d + 3) 74 150 [(0, .ref 0), (1, .ref 31)] [] 48 775 (SH.take 49) I L R Q) : pm_wp X (d + 3) 74 138 [(0, .ref 0), (1, .ref 31)] [] 36 675 (SH.take 37) I L R Q := by
  have e37 : (SH.take 37)[0]? = some (0, 7) := (sh_at (by decide)).trans rfl
  have l37 : (SH.take 37).length = 37 := sh_ln (by decide)
  have e38 : (SH.take 38)[0]? = some (0, 7) := (sh_at (by decide)).trans rfl
  have l38 : (SH.take 38).length = 38 := sh_ln (by decide)
  have e49 : (SH.take 49)[0]? = some (0, 7) := (sh_at (by decide)).trans rfl
  have l49 : (SH.take 49).length = 49 := sh_ln (by decide)
  have t37 : SH.take 37 ++ [(0, 5)] = SH.take 38 := sh_tk rfl
  refine pm_gos (n := 60) (stops := [150]) ?_
  simp only [st_iload_n, st_iload, st_lload_n, st_aload_n, st_aload, st_istore_n, st_istore, st_astore_n, st_astore, st_iconst, st_bipush, st_sipush, st_lconst, st_ldc, st_ldc_w, st_ldc2_w, st_getfield, st_putfieldI, st_putfieldR, st_getstatic, st_iaload, st_iastore, st_baload, st_bastore, st_laload, st_lastore, st_aaload, st_aastore, st_arraylength, st_iadd, st_isub, st_imul, st_iand, st_ior, st_ixor, st_ishl, st_ishr, st_idiv, st_irem, st_ineg, st_land, st_lor, st_lshl, st_i2l, st_l2i, st_i2b, st_i2s, st_i2c, st_lcmp, st_iinc, st_dupI, st_dupR, st_dup2, st_pop, st_goto, st_if_eq, st_icmp_eq, st_if_ne, st_icmp_ne, st_if_lt, st_icmp_lt, st_if_ge, st_icmp_ge, st_if_gt, st_icmp_gt, st_if_le, st_icmp_le, st_tsw, st_lsw, st_newarray, st_anewarray, st_new, st_invokevirtual, st_invokespecial, oin_ref, st_static, st_max, st_min, st_abs, st_copyi, st_copyl, st_ireturn, st_lreturn, st_areturn, st_return, rn_succ, inl_nil, inl_cons, rno_some, oi_some, ol_some, or_some, lk_cons, ins_nil, ins_cons, rm_nil, rm_int, rm_ref, rm_long, pop_0, pop_1, pop_2, pop_3, pop_4, pop_5, pop_6, la_nil, la_int, la_ref, la_long, cat_nil, cat_int, cat_ref, cat_long, call_succ, cont_some, cont_none, rcv_0, rcv_1, rcv_2, rcv_3, rcv_4, rcv_5, rcv_6, rcv_7, rcv_8, rcv_s, rf_some, ret_0, ret_10, ret_11, ret_ite, ite_0, sw_nil, sw_cons, ln_some, isk_some, al_some, ↓reduceIte, Nat.reduceAdd, Nat.reduceEqDiff, Nat.reduceLeDiff, Nat.reduceLT, Int32.reduceLT, Int32.reduceLE, Int32.reduceToNatClampNeg, Int32.reduceOfNat, Int32.reduceAdd, Int32.reduceSub, Int.reduceEq, Int.reduceNeg, Int.reduceLT, Int32.reduceOfInt, Int64.reduceOfInt, Bool.false_eq_true, true_and, and_true, eq_self, not_true_eq_false, not_false_eq_true, false_imp_iff, true_imp_iff, forall_const, or_true, true_or, ne_eq, Nat.zero_add, Nat.add_zero, Nat.le_refl, reduceCtorEq, Ft74, e37, l37, e38, l38, e49, l49, t37, and_self]
  refine ⟨rm_g (by decide) (by decide) (by decide) (by decide) (scl_r (by decide) (scl_r (by decide) scl_n)) (scv_r (by decide) scv_n), by unfold pm_nf3; decide, Or.inr ⟨(scl_r (by decide) (scl_r (by decide) scl_n)), (scv_r (by decide) (scv_r (by decide) scv_n))⟩, w_x48 (by decide) (by decide) (by decide) (by decide) (show SH[37]? = some (0, 5) from rfl) (show SH[38]? = some (1, 6) from rfl) (show SH[39]? = some (1, 6) from rfl) (show SH[40]? = some (1, 6) from rfl) (show SH[41]? = some (1, 6) from rfl) (show SH[42]? = some (1, 6) from rfl) (show SH[43]? = some (1, 24) from rfl) (show SH[44]? = some (1, 6) from rfl) (show SH[45]? = some (1, 6) from rfl) (show SH[46]? = some (1, 6) from rfl) (show SH[47]? = some (1, 6) from rfl) (show SH[48]? = some (1, 6) from rfl) (b0_new q) rfl yy_37 fun I1 L1 R1 c1 k1 => ?_⟩
  have q1 := b0_call (by decide) q c1 k1
  simp only [st_iload_n, st_iload, st_lload_n, st_aload_n, st_aload, st_istore_n, st_istore, st_astore_n, st_astore, st_iconst, st_bipush, st_sipush, st_lconst, st_ldc, st_ldc_w, st_ldc2_w, st_getfield, st_putfieldI, st_putfieldR, st_getstatic, st_iaload, st_iastore, st_baload, st_bastore, st_laload, st_lastore, st_aaload, st_aastore, st_arraylength, st_iadd, st_isub, st_imul, st_iand, st_ior, st_ixor, st_ishl, st_ishr, st_idiv, st_irem, st_ineg, st_land, st_lor, st_lshl, st_i2l, st_l2i, st_i2b, st_i2s, st_i2c, st_lcmp, st_iinc, st_dupI, st_dupR, st_dup2, st_pop, st_goto, st_if_eq, st_icmp_eq, st_if_ne, st_icmp_ne, st_if_lt, st_icmp_lt, st_if_ge, st_icmp_ge, st_if_gt, st_icmp_gt, st_if_le, st_icmp_le, st_tsw, st_lsw, st_newarray, st_anewarray, st_new, st_invokevirtual, st_invokespecial, oin_ref, st_static, st_max, st_min, st_abs, st_copyi, st_copyl, st_ireturn, st_lreturn, st_areturn, st_return, rn_succ, inl_nil, inl_cons, rno_some, oi_some, ol_some, or_some, lk_cons, ins_nil, ins_cons, rm_nil, rm_int, rm_ref, rm_long, pop_0, pop_1, pop_2, pop_3, pop_4, pop_5, pop_6, la_nil, la_int, la_ref, la_long, cat_nil, cat_int, cat_ref, cat_long, call_succ, cont_some, cont_none, rcv_0, rcv_1, rcv_2, rcv_3, rcv_4, rcv_5, rcv_6, rcv_7, rcv_8, rcv_s, rf_some, ret_0, ret_10, ret_11, ret_ite, ite_0, sw_nil, sw_cons, ln_some, isk_some, al_some, ↓reduceIte, Nat.reduceAdd, Nat.reduceEqDiff, Nat.reduceLeDiff, Nat.reduceLT, Int32.reduceLT, Int32.reduceLE, Int32.reduceToNatClampNeg, Int32.reduceOfNat, Int32.reduceAdd, Int32.reduceSub, Int.reduceEq, Int.reduceNeg, Int.reduceLT, Int32.reduceOfInt, Int64.reduceOfInt, Bool.false_eq_true, true_and, and_true, eq_self, not_true_eq_false, not_false_eq_true, false_imp_iff, true_imp_iff, forall_const, or_true, true_or, ne_eq, Nat.zero_add, Nat.add_zero, Nat.le_refl, reduceCtorEq, Ft74, e37, l37, e38, l38, e49, l49, t37, and_self]
  exact h _ _ _ (b0_r (by decide) q1)
theorem w74_e (q : B0 (fun _ => none) (fun _ => none) 49 ro io I L R)
    (h : ∀ I L R, B0 (fun _ => none) (fun _ => none) 61 (pm_up (ro) 8 (some 49)) (io) I L R → pm_wp X (d + 3) 74 162 [(0, .ref 0), (1, .ref 31)] [] 60 875 (SH.take 61) I L R Q) : pm_wp X (d + 3) 74 150 [(0, .ref 0), (1, .ref 31)] [] 48 775 (SH.take 49) I L R Q := by
  have e49 : (SH.take 49)[0]? = some (0, 7) := (sh_at (by decide)).trans rfl
  have l49 : (SH.take 49).length = 49 := sh_ln (by decide)
  have e50 : (SH.take 50)[0]? = some (0, 7) := (sh_at (by decide)).trans rfl
  have l50 : (SH.take 50).length = 50 := sh_ln (by decide)
  have e61 : (SH.take 61)[0]? = some (0, 7) := (sh_at (by decide)).trans rfl
  have l61 : (SH.take 61).length = 61 := sh_ln (by decide)
  have t49 : SH.take 49 ++ [(0, 5)] = SH.take 50 := sh_tk rfl
  refine pm_gos (n := 60) (stops := [162]) ?_
  simp only [st_iload_n, st_iload, st_lload_n, st_aload_n, st_aload, st_istore_n, st_istore, st_astore_n, st_astore, st_iconst, st_bipush, st_sipush, st_lconst, st_ldc, st_ldc_w, st_ldc2_w, st_getfield, st_putfieldI, st_putfieldR, st_getstatic, st_iaload, st_iastore, st_baload, st_bastore, st_laload, st_lastore, st_aaload, st_aastore, st_arraylength, st_iadd, st_isub, st_imul, st_iand, st_ior, st_ixor, st_ishl, st_ishr, st_idiv, st_irem, st_ineg, st_land, st_lor, st_lshl, st_i2l, st_l2i, st_i2b, st_i2s, st_i2c, st_lcmp, st_iinc, st_dupI, st_dupR, st_dup2, st_pop, st_goto, st_if_eq, st_icmp_eq, st_if_ne, st_icmp_ne, st_if_lt, st_icmp_lt, st_if_ge, st_icmp_ge, st_if_gt, st_icmp_gt, st_if_le, st_icmp_le, st_tsw, st_lsw, st_newarray, st_anewarray, st_new, st_invokevirtual, st_invokespecial, oin_ref, st_static, st_max, st_min, st_abs, st_copyi, st_copyl, st_ireturn, st_lreturn, st_areturn, st_return, rn_succ, inl_nil, inl_cons, rno_some, oi_some, ol_some, or_some, lk_cons, ins_nil, ins_cons, rm_nil, rm_int, rm_ref, rm_long, pop_0, pop_1, pop_2, pop_3, pop_4, pop_5, pop_6, la_nil, la_int, la_ref, la_long, cat_nil, cat_int, cat_ref, cat_long, call_succ, cont_some, cont_none, rcv_0, rcv_1, rcv_2, rcv_3, rcv_4, rcv_5, rcv_6, rcv_7, rcv_8, rcv_s, rf_some, ret_0, ret_10, ret_11, ret_ite, ite_0, sw_nil, sw_cons, ln_some, isk_some, al_some, ↓reduceIte, Nat.reduceAdd, Nat.reduceEqDiff, Nat.reduceLeDiff, Nat.reduceLT, Int32.reduceLT, Int32.reduceLE, Int32.reduceToNatClampNeg, Int32.reduceOfNat, Int32.reduceAdd, Int32.reduceSub, Int.reduceEq, Int.reduceNeg, Int.reduceLT, Int32.reduceOfInt, Int64.reduceOfInt, Bool.false_eq_true, true_and, and_true, eq_self, not_true_eq_false, not_false_eq_true, false_imp_iff, true_imp_iff, forall_const, or_true, true_or, ne_eq, Nat.zero_add, Nat.add_zero, Nat.le_refl, reduceCtorEq, Ft74, e49, l49, e50, l50, e61, l61, t49, and_self]
  refine ⟨rm_g (by decide) (by decide) (by decide) (by decide) (scl_r (by decide) (scl_r (by decide) scl_n)) (scv_r (by decide) scv_n), by unfold pm_nf3; decide, Or.inr ⟨(scl_r (by decide) (scl_r (by decide) scl_n)), (scv_r (by decide) (scv_r (by decide) scv_n))⟩, w_x48 (by decide) (by decide) (by decide) (by decide) (show SH[49]? = some (0, 5) from rfl) (show SH[50]? = some (1, 6) from rfl) (show SH[51]? = some (1, 6) from rfl) (show SH[52]? = some (1, 6) from rfl) (show SH[53]? = some (1, 6) from rfl) (show SH[54]? = some (1, 6) from rfl) (show SH[55]? = some (1, 24) from rfl) (show SH[56]? = some (1, 6) from rfl) (show SH[57]? = some (1, 6) from rfl) (show SH[58]? = some (1, 6) from rfl) (show SH[59]? = some (1, 6) from rfl) (show SH[60]? = some (1, 6) from rfl) (b0_new q) rfl yy_49 fun I1 L1 R1 c1 k1 => ?_⟩
  have q1 := b0_call (by decide) q c1 k1
  simp only [st_iload_n, st_iload, st_lload_n, st_aload_n, st_aload, st_istore_n, st_istore, st_astore_n, st_astore, st_iconst, st_bipush, st_sipush, st_lconst, st_ldc, st_ldc_w, st_ldc2_w, st_getfield, st_putfieldI, st_putfieldR, st_getstatic, st_iaload, st_iastore, st_baload, st_bastore, st_laload, st_lastore, st_aaload, st_aastore, st_arraylength, st_iadd, st_isub, st_imul, st_iand, st_ior, st_ixor, st_ishl, st_ishr, st_idiv, st_irem, st_ineg, st_land, st_lor, st_lshl, st_i2l, st_l2i, st_i2b, st_i2s, st_i2c, st_lcmp, st_iinc, st_dupI, st_dupR, st_dup2, st_pop, st_goto, st_if_eq, st_icmp_eq, st_if_ne, st_icmp_ne, st_if_lt, st_icmp_lt, st_if_ge, st_icmp_ge, st_if_gt, st_icmp_gt, st_if_le, st_icmp_le, st_tsw, st_lsw, st_newarray, st_anewarray, st_new, st_invokevirtual, st_invokespecial, oin_ref, st_static, st_max, st_min, st_abs, st_copyi, st_copyl, st_ireturn, st_lreturn, st_areturn, st_return, rn_succ, inl_nil, inl_cons, rno_some, oi_some, ol_some, or_some, lk_cons, ins_nil, ins_cons, rm_nil, rm_int, rm_ref, rm_long, pop_0, pop_1, pop_2, pop_3, pop_4, pop_5, pop_6, la_nil, la_int, la_ref, la_long, cat_nil, cat_int, cat_ref, cat_long, call_succ, cont_some, cont_none, rcv_0, rcv_1, rcv_2, rcv_3, rcv_4, rcv_5, rcv_6, rcv_7, rcv_8, rcv_s, rf_some, ret_0, ret_10, ret_11, ret_ite, ite_0, sw_nil, sw_cons, ln_some, isk_some, al_some, ↓reduceIte, Nat.reduceAdd, Nat.reduceEqDiff, Nat.reduceLeDiff, Nat.reduceLT, Int32.reduceLT, Int32.reduceLE, Int32.reduceToNatClampNeg, Int32.reduceOfNat, Int32.reduceAdd, Int32.reduceSub, Int.reduceEq, Int.reduceNeg, Int.reduceLT, Int32.reduceOfInt, Int64.reduceOfInt, Bool.false_eq_true, true_and, and_true, eq_self, not_true_eq_false, not_false_eq_true, false_imp_iff, true_imp_iff, forall_const, or_true, true_or, ne_eq, Nat.zero_add, Nat.add_zero, Nat.le_refl, reduceCtorEq, Ft74, e49, l49, e50, l50, e61, l61, t49, and_self]
  exact h _ _ _ (b0_r (by decide) q1)
theorem w74_f (g : ro 3 = some 37) (q : B0 (fun _ => none) (fun _ => none) 61 ro io I L R)
    (h : ∀ I L R, B0 (fun _ => none) (fun _ => none) 74 (pm_up (ro) 12 (some 61)) (io) I L R → pm_wp X (d + 3) 74 185 [(0, .ref 0), (1, .ref 31)] [] 73 977 (SH.take 74) I L R Q) : pm_wp X (d + 3) 74 162 [(0, .ref 0), (1, .ref 31)] [] 60 875 (SH.take 61) I L R Q := by
  have g1 : pm_up R 61 (fun _ => none) 0 3 = some 37 := (congrFun q.2.1.2.2 3).trans g
  have e61 : (SH.take 61)[0]? = some (0, 7) := (sh_at (by decide)).trans rfl
  have l61 : (SH.take 61).length = 61 := sh_ln (by decide)
  have e62 : (SH.take 62)[0]? = some (0, 7) := (sh_at (by decide)).trans rfl
  have l62 : (SH.take 62).length = 62 := sh_ln (by decide)
  have e63 : (SH.take 63)[0]? = some (0, 7) := (sh_at (by decide)).trans rfl
  have l63 : (SH.take 63).length = 63 := sh_ln (by decide)
  have e74 : (SH.take 74)[0]? = some (0, 7) := (sh_at (by decide)).trans rfl
  have l74 : (SH.take 74).length = 74 := sh_ln (by decide)
  have t61 : SH.take 61 ++ [(0, 1)] = SH.take 62 := sh_tk rfl
  have t62 : SH.take 62 ++ [(0, 5)] = SH.take 63 := sh_tk rfl
  refine pm_gos (n := 60) (stops := [185]) ?_
  simp only [st_iload_n, st_iload, st_lload_n, st_aload_n, st_aload, st_istore_n, st_istore, st_astore_n, st_astore, st_iconst, st_bipush, st_sipush, st_lconst, st_ldc, st_ldc_w, st_ldc2_w, st_getfield, st_putfieldI, st_putfieldR, st_getstatic, st_iaload, st_iastore, st_baload, st_bastore, st_laload, st_lastore, st_aaload, st_aastore, st_arraylength, st_iadd, st_isub, st_imul, st_iand, st_ior, st_ixor, st_ishl, st_ishr, st_idiv, st_irem, st_ineg, st_land, st_lor, st_lshl, st_i2l, st_l2i, st_i2b, st_i2s, st_i2c, st_lcmp, st_iinc, st_dupI, st_dupR, st_dup2, st_pop, st_goto, st_if_eq, st_icmp_eq, st_if_ne, st_icmp_ne, st_if_lt, st_icmp_lt, st_if_ge, st_icmp_ge, st_if_gt, st_icmp_gt, st_if_le, st_icmp_le, st_tsw, st_lsw, st_newarray, st_anewarray, st_new, st_invokevirtual, st_invokespecial, oin_ref, st_static, st_max, st_min, st_abs, st_copyi, st_copyl, st_ireturn, st_lreturn, st_areturn, st_return, rn_succ, inl_nil, inl_cons, rno_some, oi_some, ol_some, or_some, lk_cons, ins_nil, ins_cons, rm_nil, rm_int, rm_ref, rm_long, pop_0, pop_1, pop_2, pop_3, pop_4, pop_5, pop_6, la_nil, la_int, la_ref, la_long, cat_nil, cat_int, cat_ref, cat_long, call_succ, cont_some, cont_none, rcv_0, rcv_1, rcv_2, rcv_3, rcv_4, rcv_5, rcv_6, rcv_7, rcv_8, rcv_s, rf_some, ret_0, ret_10, ret_11, ret_ite, ite_0, sw_nil, sw_cons, ln_some, isk_some, al_some, ↓reduceIte, Nat.reduceAdd, Nat.reduceEqDiff, Nat.reduceLeDiff, Nat.reduceLT, Int32.reduceLT, Int32.reduceLE, Int32.reduceToNatClampNeg, Int32.reduceOfNat, Int32.reduceAdd, Int32.reduceSub, Int.reduceEq, Int.reduceNeg, Int.reduceLT, Int32.reduceOfInt, Int64.reduceOfInt, Bool.false_eq_true, true_and, and_true, eq_self, not_true_eq_false, not_false_eq_true, false_imp_iff, true_imp_iff, forall_const, or_true, true_or, ne_eq, Nat.zero_add, Nat.add_zero, Nat.le_refl, reduceCtorEq, Ft74, e61, l61, e62, l62, e63, l63, e74, l74, t61, t62, and_self, g1]
  refine ⟨rm_g (by decide) (by decide) (by decide) (by decide) (scl_r (by decide) (scl_r (by decide) scl_n)) (scv_r (by decide) scv_n), rm_g (by decide) (by decide) (by decide) (by decide) (scl_r (by decide) (scl_r (by decide) scl_n)) (scv_r (by decide) (scv_r (by decide) (scv_r (by decide) (scv_r (by decide) scv_n)))), by unfold pm_nf3; decide, Or.inr ⟨(scl_r (by decide) (scl_r (by decide) scl_n)), (scv_r (by decide) (scv_r (by decide) (scv_r (by decide) (scv_r (by decide) (scv_r (by decide) scv_n)))))⟩, w_x48 (by decide) (by decide) (by decide) (by decide) (show SH[62]? = some (0, 5) from rfl) (show SH[63]? = some (1, 6) from rfl) (show SH[64]? = some (1, 6) from rfl) (show SH[65]? = some (1, 6) from rfl) (show SH[66]? = some (1, 6) from rfl) (show SH[67]? = some (1, 6) from rfl) (show SH[68]? = some (1, 24) from rfl) (show SH[69]? = some (1, 6) from rfl) (show SH[70]? = some (1, 6) from rfl) (show SH[71]? = some (1, 6) from rfl) (show SH[72]? = some (1, 6) from rfl) (show SH[73]? = some (1, 6) from rfl) (cn_new (b0_ex (by decide) q)) rfl yy_62 fun I1 L1 R1 c1 k1 => ?_⟩
  have f1 : (SH.take 74)[61]? = some (0, 1) := (sh_at (by decide)).trans rfl
  have f2 : 37 < (SH.take 74).length := by rw [l74]; decide
  have f3 : 62 < (SH.take 74).length := by rw [l74]; decide
  have q1 : B0 (fun _ => none) (fun _ => none) 74 ro io I1 L1 (pm_up (pm_up R1 61 (pm_up (R1 61) 0 (some 37))) 61 (pm_up (pm_up R1 61 (pm_up (R1 61) 0 (some 37)) 61) 1 (some 62))) := by
    obtain ⟨-, ⟨c3, c4, c5⟩, -⟩ := q
    obtain ⟨d1, d2, d3⟩ := k1 61 (Or.inr rfl)
    obtain ⟨z1, z2, z3⟩ := k1 0 (Or.inl rfl)
    have d3 : R1 61 = fun _ => none := d3
    have z3 : R1 0 = R 0 := z3
    refine ⟨⟨fun a h1 h2 h3 h4 => ?_, fun a h => ?_⟩, ⟨z1.trans c3, z2.trans c4, ?_⟩, fun a h1 h2 => absurd (by omega) h2⟩
    · by_cases z : a = 61
      · subst z
        rw [d1, d2, show TT (fun _ => none) (fun _ => none) 61 = RR K0 61 from rfl, ← yy_61]
        refine ⟨rfl, rfl, ?_⟩
        rw [up_s, up_s, d3]
      · rw [show pm_up (pm_up R1 61 (pm_up (R1 61) 0 (some 37))) 61 (pm_up (pm_up R1 61 (pm_up (R1 61) 0 (some 37)) 61) 1 (some 62)) a = R1 a by simp [pm_up, z]]
        exact c1.1 a h1 z h4
    · have : ¬ a = 61 := by omega
      rw [show pm_up (pm_up R1 61 (pm_up (R1 61) 0 (some 37))) 61 (pm_up (pm_up R1 61 (pm_up (R1 61) 0 (some 37)) 61) 1 (some 62)) a = R1 a by simp [pm_up, this]]
      exact c1.2 a h
    · exact z3.trans c5
  simp only [st_iload_n, st_iload, st_lload_n, st_aload_n, st_aload, st_istore_n, st_istore, st_astore_n, st_astore, st_iconst, st_bipush, st_sipush, st_lconst, st_ldc, st_ldc_w, st_ldc2_w, st_getfield, st_putfieldI, st_putfieldR, st_getstatic, st_iaload, st_iastore, st_baload, st_bastore, st_laload, st_lastore, st_aaload, st_aastore, st_arraylength, st_iadd, st_isub, st_imul, st_iand, st_ior, st_ixor, st_ishl, st_ishr, st_idiv, st_irem, st_ineg, st_land, st_lor, st_lshl, st_i2l, st_l2i, st_i2b, st_i2s, st_i2c, st_lcmp, st_iinc, st_dupI, st_dupR, st_dup2, st_pop, st_goto, st_if_eq, st_icmp_eq, st_if_ne, st_icmp_ne, st_if_lt, st_icmp_lt, st_if_ge, st_icmp_ge, st_if_gt, st_icmp_gt, st_if_le, st_icmp_le, st_tsw, st_lsw, st_newarray, st_anewarray, st_new, st_invokevirtual, st_invokespecial, oin_ref, st_static, st_max, st_min, st_abs, st_copyi, st_copyl, st_ireturn, st_lreturn, st_areturn, st_return, rn_succ, inl_nil, inl_cons, rno_some, oi_some, ol_some, or_some, lk_cons, ins_nil, ins_cons, rm_nil, rm_int, rm_ref, rm_long, pop_0, pop_1, pop_2, pop_3, pop_4, pop_5, pop_6, la_nil, la_int, la_ref, la_long, cat_nil, cat_int, cat_ref, cat_long, call_succ, cont_some, cont_none, rcv_0, rcv_1, rcv_2, rcv_3, rcv_4, rcv_5, rcv_6, rcv_7, rcv_8, rcv_s, rf_some, ret_0, ret_10, ret_11, ret_ite, ite_0, sw_nil, sw_cons, ln_some, isk_some, al_some, ↓reduceIte, Nat.reduceAdd, Nat.reduceEqDiff, Nat.reduceLeDiff, Nat.reduceLT, Int32.reduceLT, Int32.reduceLE, Int32.reduceToNatClampNeg, Int32.reduceOfNat, Int32.reduceAdd, Int32.reduceSub, Int.reduceEq, Int.reduceNeg, Int.reduceLT, Int32.reduceOfInt, Int64.reduceOfInt, Bool.false_eq_true, true_and, and_true, eq_self, not_true_eq_false, not_false_eq_true, false_imp_iff, true_imp_iff, forall_const, or_true, true_or, ne_eq, Nat.zero_add, Nat.add_zero, Nat.le_refl, reduceCtorEq, Ft74, e61, l61, e62, l62, e63, l63, e74, l74, t61, t62, and_self, g1]
  refine ⟨by unfold pm_nf3; decide, ?_⟩
  refine w_x7 f1 f2 f3 (by decide) ?_
  simp only [st_iload_n, st_iload, st_lload_n, st_aload_n, st_aload, st_istore_n, st_istore, st_astore_n, st_astore, st_iconst, st_bipush, st_sipush, st_lconst, st_ldc, st_ldc_w, st_ldc2_w, st_getfield, st_putfieldI, st_putfieldR, st_getstatic, st_iaload, st_iastore, st_baload, st_bastore, st_laload, st_lastore, st_aaload, st_aastore, st_arraylength, st_iadd, st_isub, st_imul, st_iand, st_ior, st_ixor, st_ishl, st_ishr, st_idiv, st_irem, st_ineg, st_land, st_lor, st_lshl, st_i2l, st_l2i, st_i2b, st_i2s, st_i2c, st_lcmp, st_iinc, st_dupI, st_dupR, st_dup2, st_pop, st_goto, st_if_eq, st_icmp_eq, st_if_ne, st_icmp_ne, st_if_lt, st_icmp_lt, st_if_ge, st_icmp_ge, st_if_gt, st_icmp_gt, st_if_le, st_icmp_le, st_tsw, st_lsw, st_newarray, st_anewarray, st_new, st_invokevirtual, st_invokespecial, oin_ref, st_static, st_max, st_min, st_abs, st_copyi, st_copyl, st_ireturn, st_lreturn, st_areturn, st_return, rn_succ, inl_nil, inl_cons, rno_some, oi_some, ol_some, or_some, lk_cons, ins_nil, ins_cons, rm_nil, rm_int, rm_ref, rm_long, pop_0, pop_1, pop_2, pop_3, pop_4, pop_5, pop_6, la_nil, la_int, la_ref, la_long, cat_nil, cat_int, cat_ref, cat_long, call_succ, cont_some, cont_none, rcv_0, rcv_1, rcv_2, rcv_3, rcv_4, rcv_5, rcv_6, rcv_7, rcv_8, rcv_s, rf_some, ret_0, ret_10, ret_11, ret_ite, ite_0, sw_nil, sw_cons, ln_some, isk_some, al_some, ↓reduceIte, Nat.reduceAdd, Nat.reduceEqDiff, Nat.reduceLeDiff, Nat.reduceLT, Int32.reduceLT, Int32.reduceLE, Int32.reduceToNatClampNeg, Int32.reduceOfNat, Int32.reduceAdd, Int32.reduceSub, Int.reduceEq, Int.reduceNeg, Int.reduceLT, Int32.reduceOfInt, Int64.reduceOfInt, Bool.false_eq_true, true_and, and_true, eq_self, not_true_eq_false, not_false_eq_true, false_imp_iff, true_imp_iff, forall_const, or_true, true_or, ne_eq, Nat.zero_add, Nat.add_zero, Nat.le_refl, reduceCtorEq, Ft74, e61, l61, e62, l62, e63, l63, e74, l74, t61, t62, and_self, g1]
  exact h _ _ _ (b0_r (by decide) q1)
theorem w74_k0 (g : ro 0 = some 1) (q : B0 Ua Ub 74 ro io I L R)
    (h : ∀ I L R, B0 (pm_up Ua 0 (some 74)) Ub 80 (ro) (io) I L R → pm_wp X (d + 3) 74 187 [(0, .ref 0), (1, .ref 31), (2, .int 1)] [] 79 1307 (SH.take 80) I L R Q) : pm_wp X (d + 3) 74 187 [(0, .ref 0), (1, .ref 31), (2, .int 0)] [] 73 977 (SH.take 74) I L R Q := by
  have g1 : R 0 0 = some 1 := (congrFun q.2.1.2.2 0).trans g
  have e74 : (SH.take 74)[0]? = some (0, 7) := (sh_at (by decide)).trans rfl
  have l74 : (SH.take 74).length = 74 := sh_ln (by decide)
  have e75 : (SH.take 75)[0]? = some (0, 7) := (sh_at (by decide)).trans rfl
  have l75 : (SH.take 75).length = 75 := sh_ln (by decide)
  have e80 : (SH.take 80)[0]? = some (0, 7) := (sh_at (by decide)).trans rfl
  have l80 : (SH.take 80).length = 80 := sh_ln (by decide)
  have t74 : SH.take 74 ++ [(0, 2)] = SH.take 75 := sh_tk rfl
  have f1 : (SH.take 80)[1]? = some (6, 6) := (sh_at (by decide)).trans rfl
  have f2 : (SH.take 80)[74]? = some (0, 2) := (sh_at (by decide)).trans rfl
  have f3 : vp_in 0 6 := by unfold vp_in; decide
  refine pm_gos (n := 60) (stops := [187]) ?_
  simp only [st_iload_n, st_iload, st_lload_n, st_aload_n, st_aload, st_istore_n, st_istore, st_astore_n, st_astore, st_iconst, st_bipush, st_sipush, st_lconst, st_ldc, st_ldc_w, st_ldc2_w, st_getfield, st_putfieldI, st_putfieldR, st_getstatic, st_iaload, st_iastore, st_baload, st_bastore, st_laload, st_lastore, st_aaload, st_aastore, st_arraylength, st_iadd, st_isub, st_imul, st_iand, st_ior, st_ixor, st_ishl, st_ishr, st_idiv, st_irem, st_ineg, st_land, st_lor, st_lshl, st_i2l, st_l2i, st_i2b, st_i2s, st_i2c, st_lcmp, st_iinc, st_dupI, st_dupR, st_dup2, st_pop, st_goto, st_if_eq, st_icmp_eq, st_if_ne, st_icmp_ne, st_if_lt, st_icmp_lt, st_if_ge, st_icmp_ge, st_if_gt, st_icmp_gt, st_if_le, st_icmp_le, st_tsw, st_lsw, st_newarray, st_anewarray, st_new, st_invokevirtual, st_invokespecial, oin_ref, st_static, st_max, st_min, st_abs, st_copyi, st_copyl, st_ireturn, st_lreturn, st_areturn, st_return, rn_succ, inl_nil, inl_cons, rno_some, oi_some, ol_some, or_some, lk_cons, ins_nil, ins_cons, rm_nil, rm_int, rm_ref, rm_long, pop_0, pop_1, pop_2, pop_3, pop_4, pop_5, pop_6, la_nil, la_int, la_ref, la_long, cat_nil, cat_int, cat_ref, cat_long, call_succ, cont_some, cont_none, rcv_0, rcv_1, rcv_2, rcv_3, rcv_4, rcv_5, rcv_6, rcv_7, rcv_8, rcv_s, rf_some, ret_0, ret_10, ret_11, ret_ite, ite_0, sw_nil, sw_cons, ln_some, isk_some, al_some, ↓reduceIte, Nat.reduceAdd, Nat.reduceEqDiff, Nat.reduceLeDiff, Nat.reduceLT, Int32.reduceLT, Int32.reduceLE, Int32.reduceToNatClampNeg, Int32.reduceOfNat, Int32.reduceAdd, Int32.reduceSub, Int.reduceEq, Int.reduceNeg, Int.reduceLT, Int32.reduceOfInt, Int64.reduceOfInt, Bool.false_eq_true, true_and, and_true, eq_self, not_true_eq_false, not_false_eq_true, false_imp_iff, true_imp_iff, forall_const, or_true, true_or, ne_eq, Nat.zero_add, Nat.add_zero, Nat.le_refl, reduceCtorEq, Ft74, e74, l74, e75, l75, e80, l80, t74, and_self, g1, f1, f2, f3]
  refine ⟨rm_g (by decide) (by decide) (by decide) (by decide) (scl_r (by decide) (scl_r (by decide) (scl_i scl_n))) (scv_i (scv_r (by decide) scv_n)), by unfold pm_nf3; decide, Or.inr ⟨(scl_r (by decide) (scl_r (by decide) (scl_i scl_n))), (scv_r (by decide) (scv_i (scv_r (by decide) scv_n)))⟩, w_x22 (by decide) (by decide) (by decide) (show SH[74]? = some (0, 2) from rfl) (show SH[75]? = some (1, 10) from rfl) (show SH[76]? = some (1, 10) from rfl) (show SH[77]? = some (1, 100) from rfl) (show SH[78]? = some (1, 100) from rfl) (show SH[79]? = some (1, 100) from rfl) (b0_new q) (k_x0 (by decide)) yy_74 fun I1 L1 R1 c1 k1 => ?_⟩
  have q1 := b0_call (by decide) q c1 k1
  simp only [st_iload_n, st_iload, st_lload_n, st_aload_n, st_aload, st_istore_n, st_istore, st_astore_n, st_astore, st_iconst, st_bipush, st_sipush, st_lconst, st_ldc, st_ldc_w, st_ldc2_w, st_getfield, st_putfieldI, st_putfieldR, st_getstatic, st_iaload, st_iastore, st_baload, st_bastore, st_laload, st_lastore, st_aaload, st_aastore, st_arraylength, st_iadd, st_isub, st_imul, st_iand, st_ior, st_ixor, st_ishl, st_ishr, st_idiv, st_irem, st_ineg, st_land, st_lor, st_lshl, st_i2l, st_l2i, st_i2b, st_i2s, st_i2c, st_lcmp, st_iinc, st_dupI, st_dupR, st_dup2, st_pop, st_goto, st_if_eq, st_icmp_eq, st_if_ne, st_icmp_ne, st_if_lt, st_icmp_lt, st_if_ge, st_icmp_ge, st_if_gt, st_icmp_gt, st_if_le, st_icmp_le, st_tsw, st_lsw, st_newarray, st_anewarray, st_new, st_invokevirtual, st_invokespecial, oin_ref, st_static, st_max, st_min, st_abs, st_copyi, st_copyl, st_ireturn, st_lreturn, st_areturn, st_return, rn_succ, inl_nil, inl_cons, rno_some, oi_some, ol_some, or_some, lk_cons, ins_nil, ins_cons, rm_nil, rm_int, rm_ref, rm_long, pop_0, pop_1, pop_2, pop_3, pop_4, pop_5, pop_6, la_nil, la_int, la_ref, la_long, cat_nil, cat_int, cat_ref, cat_long, call_succ, cont_some, cont_none, rcv_0, rcv_1, rcv_2, rcv_3, rcv_4, rcv_5, rcv_6, rcv_7, rcv_8, rcv_s, rf_some, ret_0, ret_10, ret_11, ret_ite, ite_0, sw_nil, sw_cons, ln_some, isk_some, al_some, ↓reduceIte, Nat.reduceAdd, Nat.reduceEqDiff, Nat.reduceLeDiff, Nat.reduceLT, Int32.reduceLT, Int32.reduceLE, Int32.reduceToNatClampNeg, Int32.reduceOfNat, Int32.reduceAdd, Int32.reduceSub, Int.reduceEq, Int.reduceNeg, Int.reduceLT, Int32.reduceOfInt, Int64.reduceOfInt, Bool.false_eq_true, true_and, and_true, eq_self, not_true_eq_false, not_false_eq_true, false_imp_iff, true_imp_iff, forall_const, or_true, true_or, ne_eq, Nat.zero_add, Nat.add_zero, Nat.le_refl, reduceCtorEq, Ft74, e74, l74, e75, l75, e80, l80, t74, and_self, g1, f1, f2, f3]
  exact h _ _ _ (b0_1 (by decide) q1)
theorem w74_k1 (g : ro 0 = some 1) (q : B0 Ua Ub 80 ro io I L R)
    (h : ∀ I L R, B0 (pm_up Ua 1 (some 80)) Ub 86 (ro) (io) I L R → pm_wp X (d + 3) 74 187 [(0, .ref 0), (1, .ref 31), (2, .int 2)] [] 85 1637 (SH.take 86) I L R Q) : pm_wp X (d + 3) 74 187 [(0, .ref 0), (1, .ref 31), (2, .int 1)] [] 79 1307 (SH.take 80) I L R Q := by
  have g1 : R 0 0 = some 1 := (congrFun q.2.1.2.2 0).trans g
  have e80 : (SH.take 80)[0]? = some (0, 7) := (sh_at (by decide)).trans rfl
  have l80 : (SH.take 80).length = 80 := sh_ln (by decide)
  have e81 : (SH.take 81)[0]? = some (0, 7) := (sh_at (by decide)).trans rfl
  have l81 : (SH.take 81).length = 81 := sh_ln (by decide)
  have e86 : (SH.take 86)[0]? = some (0, 7) := (sh_at (by decide)).trans rfl
  have l86 : (SH.take 86).length = 86 := sh_ln (by decide)
  have t80 : SH.take 80 ++ [(0, 2)] = SH.take 81 := sh_tk rfl
  have f1 : (SH.take 86)[1]? = some (6, 6) := (sh_at (by decide)).trans rfl
  have f2 : (SH.take 86)[80]? = some (0, 2) := (sh_at (by decide)).trans rfl
  have f3 : vp_in 1 6 := by unfold vp_in; decide
  refine pm_gos (n := 60) (stops := [187]) ?_
  simp only [st_iload_n, st_iload, st_lload_n, st_aload_n, st_aload, st_istore_n, st_istore, st_astore_n, st_astore, st_iconst, st_bipush, st_sipush, st_lconst, st_ldc, st_ldc_w, st_ldc2_w, st_getfield, st_putfieldI, st_putfieldR, st_getstatic, st_iaload, st_iastore, st_baload, st_bastore, st_laload, st_lastore, st_aaload, st_aastore, st_arraylength, st_iadd, st_isub, st_imul, st_iand, st_ior, st_ixor, st_ishl, st_ishr, st_idiv, st_irem, st_ineg, st_land, st_lor, st_lshl, st_i2l, st_l2i, st_i2b, st_i2s, st_i2c, st_lcmp, st_iinc, st_dupI, st_dupR, st_dup2, st_pop, st_goto, st_if_eq, st_icmp_eq, st_if_ne, st_icmp_ne, st_if_lt, st_icmp_lt, st_if_ge, st_icmp_ge, st_if_gt, st_icmp_gt, st_if_le, st_icmp_le, st_tsw, st_lsw, st_newarray, st_anewarray, st_new, st_invokevirtual, st_invokespecial, oin_ref, st_static, st_max, st_min, st_abs, st_copyi, st_copyl, st_ireturn, st_lreturn, st_areturn, st_return, rn_succ, inl_nil, inl_cons, rno_some, oi_some, ol_some, or_some, lk_cons, ins_nil, ins_cons, rm_nil, rm_int, rm_ref, rm_long, pop_0, pop_1, pop_2, pop_3, pop_4, pop_5, pop_6, la_nil, la_int, la_ref, la_long, cat_nil, cat_int, cat_ref, cat_long, call_succ, cont_some, cont_none, rcv_0, rcv_1, rcv_2, rcv_3, rcv_4, rcv_5, rcv_6, rcv_7, rcv_8, rcv_s, rf_some, ret_0, ret_10, ret_11, ret_ite, ite_0, sw_nil, sw_cons, ln_some, isk_some, al_some, ↓reduceIte, Nat.reduceAdd, Nat.reduceEqDiff, Nat.reduceLeDiff, Nat.reduceLT, Int32.reduceLT, Int32.reduceLE, Int32.reduceToNatClampNeg, Int32.reduceOfNat, Int32.reduceAdd, Int32.reduceSub, Int.reduceEq, Int.reduceNeg, Int.reduceLT, Int32.reduceOfInt, Int64.reduceOfInt, Bool.false_eq_true, true_and, and_true, eq_self, not_true_eq_false, not_false_eq_true, false_imp_iff, true_imp_iff, forall_const, or_true, true_or, ne_eq, Nat.zero_add, Nat.add_zero, Nat.le_refl, reduceCtorEq, Ft74, e80, l80, e81, l81, e86, l86, t80, and_self, g1, f1, f2, f3]
  refine ⟨rm_g (by decide) (by decide) (by decide) (by decide) (scl_r (by decide) (scl_r (by decide) (scl_i scl_n))) (scv_i (scv_r (by decide) scv_n)), by unfold pm_nf3; decide, Or.inr ⟨(scl_r (by decide) (scl_r (by decide) (scl_i scl_n))), (scv_r (by decide) (scv_i (scv_r (by decide) scv_n)))⟩, w_x22 (by decide) (by decide) (by decide) (show SH[80]? = some (0, 2) from rfl) (show SH[81]? = some (1, 10) from rfl) (show SH[82]? = some (1, 10) from rfl) (show SH[83]? = some (1, 100) from rfl) (show SH[84]? = some (1, 100) from rfl) (show SH[85]? = some (1, 100) from rfl) (b0_new q) (k_x0 (by decide)) yy_80 fun I1 L1 R1 c1 k1 => ?_⟩
  have q1 := b0_call (by decide) q c1 k1
  simp only [st_iload_n, st_iload, st_lload_n, st_aload_n, st_aload, st_istore_n, st_istore, st_astore_n, st_astore, st_iconst, st_bipush, st_sipush, st_lconst, st_ldc, st_ldc_w, st_ldc2_w, st_getfield, st_putfieldI, st_putfieldR, st_getstatic, st_iaload, st_iastore, st_baload, st_bastore, st_laload, st_lastore, st_aaload, st_aastore, st_arraylength, st_iadd, st_isub, st_imul, st_iand, st_ior, st_ixor, st_ishl, st_ishr, st_idiv, st_irem, st_ineg, st_land, st_lor, st_lshl, st_i2l, st_l2i, st_i2b, st_i2s, st_i2c, st_lcmp, st_iinc, st_dupI, st_dupR, st_dup2, st_pop, st_goto, st_if_eq, st_icmp_eq, st_if_ne, st_icmp_ne, st_if_lt, st_icmp_lt, st_if_ge, st_icmp_ge, st_if_gt, st_icmp_gt, st_if_le, st_icmp_le, st_tsw, st_lsw, st_newarray, st_anewarray, st_new, st_invokevirtual, st_invokespecial, oin_ref, st_static, st_max, st_min, st_abs, st_copyi, st_copyl, st_ireturn, st_lreturn, st_areturn, st_return, rn_succ, inl_nil, inl_cons, rno_some, oi_some, ol_some, or_some, lk_cons, ins_nil, ins_cons, rm_nil, rm_int, rm_ref, rm_long, pop_0, pop_1, pop_2, pop_3, pop_4, pop_5, pop_6, la_nil, la_int, la_ref, la_long, cat_nil, cat_int, cat_ref, cat_long, call_succ, cont_some, cont_none, rcv_0, rcv_1, rcv_2, rcv_3, rcv_4, rcv_5, rcv_6, rcv_7, rcv_8, rcv_s, rf_some, ret_0, ret_10, ret_11, ret_ite, ite_0, sw_nil, sw_cons, ln_some, isk_some, al_some, ↓reduceIte, Nat.reduceAdd, Nat.reduceEqDiff, Nat.reduceLeDiff, Nat.reduceLT, Int32.reduceLT, Int32.reduceLE, Int32.reduceToNatClampNeg, Int32.reduceOfNat, Int32.reduceAdd, Int32.reduceSub, Int.reduceEq, Int.reduceNeg, Int.reduceLT, Int32.reduceOfInt, Int64.reduceOfInt, Bool.false_eq_true, true_and, and_true, eq_self, not_true_eq_false, not_false_eq_true, false_imp_iff, true_imp_iff, forall_const, or_true, true_or, ne_eq, Nat.zero_add, Nat.add_zero, Nat.le_refl, reduceCtorEq, Ft74, e80, l80, e81, l81, e86, l86, t80, and_self, g1, f1, f2, f3]
  exact h _ _ _ (b0_1 (by decide) q1)
theorem w74_k2 (g : ro 0 = some 1) (q : B0 Ua Ub 86 ro io I L R)
    (h : ∀ I L R, B0 (pm_up Ua 2 (some 86)) Ub 92 (ro) (io) I L R → pm_wp X (d + 3) 74 187 [(0, .ref 0), (1, .ref 31), (2, .int 3)] [] 91 1967 (SH.take 92) I L R Q) : pm_wp X (d + 3) 74 187 [(0, .ref 0), (1, .ref 31), (2, .int 2)] [] 85 1637 (SH.take 86) I L R Q := by
  have g1 : R 0 0 = some 1 := (congrFun q.2.1.2.2 0).trans g
  have e86 : (SH.take 86)[0]? = some (0, 7) := (sh_at (by decide)).trans rfl
  have l86 : (SH.take 86).length = 86 := sh_ln (by decide)
  have e87 : (SH.take 87)[0]? = some (0, 7) := (sh_at (by decide)).trans rfl
  have l87 : (SH.take 87).length = 87 := sh_ln (by decide)
  have e92 : (SH.take 92)[0]? = some (0, 7) := (sh_at (by decide)).trans rfl
  have l92 : (SH.take 92).length = 92 := sh_ln (by decide)
  have t86 : SH.take 86 ++ [(0, 2)] = SH.take 87 := sh_tk rfl
  have f1 : (SH.take 92)[1]? = some (6, 6) := (sh_at (by decide)).trans rfl
  have f2 : (SH.take 92)[86]? = some (0, 2) := (sh_at (by decide)).trans rfl
  have f3 : vp_in 2 6 := by unfold vp_in; decide
  refine pm_gos (n := 60) (stops := [187]) ?_
  simp only [st_iload_n, st_iload, st_lload_n, st_aload_n, st_aload, st_istore_n, st_istore, st_astore_n, st_astore, st_iconst, st_bipush, st_sipush, st_lconst, st_ldc, st_ldc_w, st_ldc2_w, st_getfield, st_putfieldI, st_putfieldR, st_getstatic, st_iaload, st_iastore, st_baload, st_bastore, st_laload, st_lastore, st_aaload, st_aastore, st_arraylength, st_iadd, st_isub, st_imul, st_iand, st_ior, st_ixor, st_ishl, st_ishr, st_idiv, st_irem, st_ineg, st_land, st_lor, st_lshl, st_i2l, st_l2i, st_i2b, st_i2s, st_i2c, st_lcmp, st_iinc, st_dupI, st_dupR, st_dup2, st_pop, st_goto, st_if_eq, st_icmp_eq, st_if_ne, st_icmp_ne, st_if_lt, st_icmp_lt, st_if_ge, st_icmp_ge, st_if_gt, st_icmp_gt, st_if_le, st_icmp_le, st_tsw, st_lsw, st_newarray, st_anewarray, st_new, st_invokevirtual, st_invokespecial, oin_ref, st_static, st_max, st_min, st_abs, st_copyi, st_copyl, st_ireturn, st_lreturn, st_areturn, st_return, rn_succ, inl_nil, inl_cons, rno_some, oi_some, ol_some, or_some, lk_cons, ins_nil, ins_cons, rm_nil, rm_int, rm_ref, rm_long, pop_0, pop_1, pop_2, pop_3, pop_4, pop_5, pop_6, la_nil, la_int, la_ref, la_long, cat_nil, cat_int, cat_ref, cat_long, call_succ, cont_some, cont_none, rcv_0, rcv_1, rcv_2, rcv_3, rcv_4, rcv_5, rcv_6, rcv_7, rcv_8, rcv_s, rf_some, ret_0, ret_10, ret_11, ret_ite, ite_0, sw_nil, sw_cons, ln_some, isk_some, al_some, ↓reduceIte, Nat.reduceAdd, Nat.reduceEqDiff, Nat.reduceLeDiff, Nat.reduceLT, Int32.reduceLT, Int32.reduceLE, Int32.reduceToNatClampNeg, Int32.reduceOfNat, Int32.reduceAdd, Int32.reduceSub, Int.reduceEq, Int.reduceNeg, Int.reduceLT, Int32.reduceOfInt, Int64.reduceOfInt, Bool.false_eq_true, true_and, and_true, eq_self, not_true_eq_false, not_false_eq_true, false_imp_iff, true_imp_iff, forall_const, or_true, true_or, ne_eq, Nat.zero_add, Nat.add_zero, Nat.le_refl, reduceCtorEq, Ft74, e86, l86, e87, l87, e92, l92, t86, and_self, g1, f1, f2, f3]
  refine ⟨rm_g (by decide) (by decide) (by decide) (by decide) (scl_r (by decide) (scl_r (by decide) (scl_i scl_n))) (scv_i (scv_r (by decide) scv_n)), by unfold pm_nf3; decide, Or.inr ⟨(scl_r (by decide) (scl_r (by decide) (scl_i scl_n))), (scv_r (by decide) (scv_i (scv_r (by decide) scv_n)))⟩, w_x22 (by decide) (by decide) (by decide) (show SH[86]? = some (0, 2) from rfl) (show SH[87]? = some (1, 10) from rfl) (show SH[88]? = some (1, 10) from rfl) (show SH[89]? = some (1, 100) from rfl) (show SH[90]? = some (1, 100) from rfl) (show SH[91]? = some (1, 100) from rfl) (b0_new q) (k_x0 (by decide)) yy_86 fun I1 L1 R1 c1 k1 => ?_⟩
  have q1 := b0_call (by decide) q c1 k1
  simp only [st_iload_n, st_iload, st_lload_n, st_aload_n, st_aload, st_istore_n, st_istore, st_astore_n, st_astore, st_iconst, st_bipush, st_sipush, st_lconst, st_ldc, st_ldc_w, st_ldc2_w, st_getfield, st_putfieldI, st_putfieldR, st_getstatic, st_iaload, st_iastore, st_baload, st_bastore, st_laload, st_lastore, st_aaload, st_aastore, st_arraylength, st_iadd, st_isub, st_imul, st_iand, st_ior, st_ixor, st_ishl, st_ishr, st_idiv, st_irem, st_ineg, st_land, st_lor, st_lshl, st_i2l, st_l2i, st_i2b, st_i2s, st_i2c, st_lcmp, st_iinc, st_dupI, st_dupR, st_dup2, st_pop, st_goto, st_if_eq, st_icmp_eq, st_if_ne, st_icmp_ne, st_if_lt, st_icmp_lt, st_if_ge, st_icmp_ge, st_if_gt, st_icmp_gt, st_if_le, st_icmp_le, st_tsw, st_lsw, st_newarray, st_anewarray, st_new, st_invokevirtual, st_invokespecial, oin_ref, st_static, st_max, st_min, st_abs, st_copyi, st_copyl, st_ireturn, st_lreturn, st_areturn, st_return, rn_succ, inl_nil, inl_cons, rno_some, oi_some, ol_some, or_some, lk_cons, ins_nil, ins_cons, rm_nil, rm_int, rm_ref, rm_long, pop_0, pop_1, pop_2, pop_3, pop_4, pop_5, pop_6, la_nil, la_int, la_ref, la_long, cat_nil, cat_int, cat_ref, cat_long, call_succ, cont_some, cont_none, rcv_0, rcv_1, rcv_2, rcv_3, rcv_4, rcv_5, rcv_6, rcv_7, rcv_8, rcv_s, rf_some, ret_0, ret_10, ret_11, ret_ite, ite_0, sw_nil, sw_cons, ln_some, isk_some, al_some, ↓reduceIte, Nat.reduceAdd, Nat.reduceEqDiff, Nat.reduceLeDiff, Nat.reduceLT, Int32.reduceLT, Int32.reduceLE, Int32.reduceToNatClampNeg, Int32.reduceOfNat, Int32.reduceAdd, Int32.reduceSub, Int.reduceEq, Int.reduceNeg, Int.reduceLT, Int32.reduceOfInt, Int64.reduceOfInt, Bool.false_eq_true, true_and, and_true, eq_self, not_true_eq_false, not_false_eq_true, false_imp_iff, true_imp_iff, forall_const, or_true, true_or, ne_eq, Nat.zero_add, Nat.add_zero, Nat.le_refl, reduceCtorEq, Ft74, e86, l86, e87, l87, e92, l92, t86, and_self, g1, f1, f2, f3]
  exact h _ _ _ (b0_1 (by decide) q1)
theorem w74_k3 (g : ro 0 = some 1) (q : B0 Ua Ub 92 ro io I L R)
    (h : ∀ I L R, B0 (pm_up Ua 3 (some 92)) Ub 98 (ro) (io) I L R → pm_wp X (d + 3) 74 187 [(0, .ref 0), (1, .ref 31), (2, .int 4)] [] 97 2297 (SH.take 98) I L R Q) : pm_wp X (d + 3) 74 187 [(0, .ref 0), (1, .ref 31), (2, .int 3)] [] 91 1967 (SH.take 92) I L R Q := by
  have g1 : R 0 0 = some 1 := (congrFun q.2.1.2.2 0).trans g
  have e92 : (SH.take 92)[0]? = some (0, 7) := (sh_at (by decide)).trans rfl
  have l92 : (SH.take 92).length = 92 := sh_ln (by decide)
  have e93 : (SH.take 93)[0]? = some (0, 7) := (sh_at (by decide)).trans rfl
  have l93 : (SH.take 93).length = 93 := sh_ln (by decide)
  have e98 : (SH.take 98)[0]? = some (0, 7) := (sh_at (by decide)).trans rfl
  have l98 : (SH.take 98).length = 98 := sh_ln (by decide)
  have t92 : SH.take 92 ++ [(0, 2)] = SH.take 93 := sh_tk rfl
  have f1 : (SH.take 98)[1]? = some (6, 6) := (sh_at (by decide)).trans rfl
  have f2 : (SH.take 98)[92]? = some (0, 2) := (sh_at (by decide)).trans rfl
  have f3 : vp_in 3 6 := by unfold vp_in; decide
  refine pm_gos (n := 60) (stops := [187]) ?_
  simp only [st_iload_n, st_iload, st_lload_n, st_aload_n, st_aload, st_istore_n, st_istore, st_astore_n, st_astore, st_iconst, st_bipush, st_sipush, st_lconst, st_ldc, st_ldc_w, st_ldc2_w, st_getfield, st_putfieldI, st_putfieldR, st_getstatic, st_iaload, st_iastore, st_baload, st_bastore, st_laload, st_lastore, st_aaload, st_aastore, st_arraylength, st_iadd, st_isub, st_imul, st_iand, st_ior, st_ixor, st_ishl, st_ishr, st_idiv, st_irem, st_ineg, st_land, st_lor, st_lshl, st_i2l, st_l2i, st_i2b, st_i2s, st_i2c, st_lcmp, st_iinc, st_dupI, st_dupR, st_dup2, st_pop, st_goto, st_if_eq, st_icmp_eq, st_if_ne, st_icmp_ne, st_if_lt, st_icmp_lt, st_if_ge, st_icmp_ge, st_if_gt, st_icmp_gt, st_if_le, st_icmp_le, st_tsw, st_lsw, st_newarray, st_anewarray, st_new, st_invokevirtual, st_invokespecial, oin_ref, st_static, st_max, st_min, st_abs, st_copyi, st_copyl, st_ireturn, st_lreturn, st_areturn, st_return, rn_succ, inl_nil, inl_cons, rno_some, oi_some, ol_some, or_some, lk_cons, ins_nil, ins_cons, rm_nil, rm_int, rm_ref, rm_long, pop_0, pop_1, pop_2, pop_3, pop_4, pop_5, pop_6, la_nil, la_int, la_ref, la_long, cat_nil, cat_int, cat_ref, cat_long, call_succ, cont_some, cont_none, rcv_0, rcv_1, rcv_2, rcv_3, rcv_4, rcv_5, rcv_6, rcv_7, rcv_8, rcv_s, rf_some, ret_0, ret_10, ret_11, ret_ite, ite_0, sw_nil, sw_cons, ln_some, isk_some, al_some, ↓reduceIte, Nat.reduceAdd, Nat.reduceEqDiff, Nat.reduceLeDiff, Nat.reduceLT, Int32.reduceLT, Int32.reduceLE, Int32.reduceToNatClampNeg, Int32.reduceOfNat, Int32.reduceAdd, Int32.reduceSub, Int.reduceEq, Int.reduceNeg, Int.reduceLT, Int32.reduceOfInt, Int64.reduceOfInt, Bool.false_eq_true, true_and, and_true, eq_self, not_true_eq_false, not_false_eq_true, false_imp_iff, true_imp_iff, forall_const, or_true, true_or, ne_eq, Nat.zero_add, Nat.add_zero, Nat.le_refl, reduceCtorEq, Ft74, e92, l92, e93, l93, e98, l98, t92, and_self, g1, f1, f2, f3]
  refine ⟨rm_g (by decide) (by decide) (by decide) (by decide) (scl_r (by decide) (scl_r (by decide) (scl_i scl_n))) (scv_i (scv_r (by decide) scv_n)), by unfold pm_nf3; decide, Or.inr ⟨(scl_r (by decide) (scl_r (by decide) (scl_i scl_n))), (scv_r (by decide) (scv_i (scv_r (by decide) scv_n)))⟩, w_x22 (by decide) (by decide) (by decide) (show SH[92]? = some (0, 2) from rfl) (show SH[93]? = some (1, 10) from rfl) (show SH[94]? = some (1, 10) from rfl) (show SH[95]? = some (1, 100) from rfl) (show SH[96]? = some (1, 100) from rfl) (show SH[97]? = some (1, 100) from rfl) (b0_new q) (k_x0 (by decide)) yy_92 fun I1 L1 R1 c1 k1 => ?_⟩
  have q1 := b0_call (by decide) q c1 k1
  simp only [st_iload_n, st_iload, st_lload_n, st_aload_n, st_aload, st_istore_n, st_istore, st_astore_n, st_astore, st_iconst, st_bipush, st_sipush, st_lconst, st_ldc, st_ldc_w, st_ldc2_w, st_getfield, st_putfieldI, st_putfieldR, st_getstatic, st_iaload, st_iastore, st_baload, st_bastore, st_laload, st_lastore, st_aaload, st_aastore, st_arraylength, st_iadd, st_isub, st_imul, st_iand, st_ior, st_ixor, st_ishl, st_ishr, st_idiv, st_irem, st_ineg, st_land, st_lor, st_lshl, st_i2l, st_l2i, st_i2b, st_i2s, st_i2c, st_lcmp, st_iinc, st_dupI, st_dupR, st_dup2, st_pop, st_goto, st_if_eq, st_icmp_eq, st_if_ne, st_icmp_ne, st_if_lt, st_icmp_lt, st_if_ge, st_icmp_ge, st_if_gt, st_icmp_gt, st_if_le, st_icmp_le, st_tsw, st_lsw, st_newarray, st_anewarray, st_new, st_invokevirtual, st_invokespecial, oin_ref, st_static, st_max, st_min, st_abs, st_copyi, st_copyl, st_ireturn, st_lreturn, st_areturn, st_return, rn_succ, inl_nil, inl_cons, rno_some, oi_some, ol_some, or_some, lk_cons, ins_nil, ins_cons, rm_nil, rm_int, rm_ref, rm_long, pop_0, pop_1, pop_2, pop_3, pop_4, pop_5, pop_6, la_nil, la_int, la_ref, la_long, cat_nil, cat_int, cat_ref, cat_long, call_succ, cont_some, cont_none, rcv_0, rcv_1, rcv_2, rcv_3, rcv_4, rcv_5, rcv_6, rcv_7, rcv_8, rcv_s, rf_some, ret_0, ret_10, ret_11, ret_ite, ite_0, sw_nil, sw_cons, ln_some, isk_some, al_some, ↓reduceIte, Nat.reduceAdd, Nat.reduceEqDiff, Nat.reduceLeDiff, Nat.reduceLT, Int32.reduceLT, Int32.reduceLE, Int32.reduceToNatClampNeg, Int32.reduceOfNat, Int32.reduceAdd, Int32.reduceSub, Int.reduceEq, Int.reduceNeg, Int.reduceLT, Int32.reduceOfInt, Int64.reduceOfInt, Bool.false_eq_true, true_and, and_true, eq_self, not_true_eq_false, not_false_eq_true, false_imp_iff, true_imp_iff, forall_const, or_true, true_or, ne_eq, Nat.zero_add, Nat.add_zero, Nat.le_refl, reduceCtorEq, Ft74, e92, l92, e93, l93, e98, l98, t92, and_self, g1, f1, f2, f3]
  exact h _ _ _ (b0_1 (by decide) q1)
theorem w74_k4 (g : ro 0 = some 1) (q : B0 Ua Ub 98 ro io I L R)
    (h : ∀ I L R, B0 (pm_up Ua 4 (some 98)) Ub 104 (ro) (io) I L R → pm_wp X (d + 3) 74 187 [(0, .ref 0), (1, .ref 31), (2, .int 5)] [] 103 2627 (SH.take 104) I L R Q) : pm_wp X (d + 3) 74 187 [(0, .ref 0), (1, .ref 31), (2, .int 4)] [] 97 2297 (SH.take 98) I L R Q := by
  have g1 : R 0 0 = some 1 := (congrFun q.2.1.2.2 0).trans g
  have e98 : (SH.take 98)[0]? = some (0, 7) := (sh_at (by decide)).trans rfl
  have l98 : (SH.take 98).length = 98 := sh_ln (by decide)
  have e99 : (SH.take 99)[0]? = some (0, 7) := (sh_at (by decide)).trans rfl
  have l99 : (SH.take 99).length = 99 := sh_ln (by decide)
  have e104 : (SH.take 104)[0]? = some (0, 7) := (sh_at (by decide)).trans rfl
  have l104 : (SH.take 104).length = 104 := sh_ln (by decide)
  have t98 : SH.take 98 ++ [(0, 2)] = SH.take 99 := sh_tk rfl
  have f1 : (SH.take 104)[1]? = some (6, 6) := (sh_at (by decide)).trans rfl
  have f2 : (SH.take 104)[98]? = some (0, 2) := (sh_at (by decide)).trans rfl
  have f3 : vp_in 4 6 := by unfold vp_in; decide
  refine pm_gos (n := 60) (stops := [187]) ?_
  simp only [st_iload_n, st_iload, st_lload_n, st_aload_n, st_aload, st_istore_n, st_istore, st_astore_n, st_astore, st_iconst, st_bipush, st_sipush, st_lconst, st_ldc, st_ldc_w, st_ldc2_w, st_getfield, st_putfieldI, st_putfieldR, st_getstatic, st_iaload, st_iastore, st_baload, st_bastore, st_laload, st_lastore, st_aaload, st_aastore, st_arraylength, st_iadd, st_isub, st_imul, st_iand, st_ior, st_ixor, st_ishl, st_ishr, st_idiv, st_irem, st_ineg, st_land, st_lor, st_lshl, st_i2l, st_l2i, st_i2b, st_i2s, st_i2c, st_lcmp, st_iinc, st_dupI, st_dupR, st_dup2, st_pop, st_goto, st_if_eq, st_icmp_eq, st_if_ne, st_icmp_ne, st_if_lt, st_icmp_lt, st_if_ge, st_icmp_ge, st_if_gt, st_icmp_gt, st_if_le, st_icmp_le, st_tsw, st_lsw, st_newarray, st_anewarray, st_new, st_invokevirtual, st_invokespecial, oin_ref, st_static, st_max, st_min, st_abs, st_copyi, st_copyl, st_ireturn, st_lreturn, st_areturn, st_return, rn_succ, inl_nil, inl_cons, rno_some, oi_some, ol_some, or_some, lk_cons, ins_nil, ins_cons, rm_nil, rm_int, rm_ref, rm_long, pop_0, pop_1, pop_2, pop_3, pop_4, pop_5, pop_6, la_nil, la_int, la_ref, la_long, cat_nil, cat_int, cat_ref, cat_long, call_succ, cont_some, cont_none, rcv_0, rcv_1, rcv_2, rcv_3, rcv_4, rcv_5, rcv_6, rcv_7, rcv_8, rcv_s, rf_some, ret_0, ret_10, ret_11, ret_ite, ite_0, sw_nil, sw_cons, ln_some, isk_some, al_some, ↓reduceIte, Nat.reduceAdd, Nat.reduceEqDiff, Nat.reduceLeDiff, Nat.reduceLT, Int32.reduceLT, Int32.reduceLE, Int32.reduceToNatClampNeg, Int32.reduceOfNat, Int32.reduceAdd, Int32.reduceSub, Int.reduceEq, Int.reduceNeg, Int.reduceLT, Int32.reduceOfInt, Int64.reduceOfInt, Bool.false_eq_true, true_and, and_true, eq_self, not_true_eq_false, not_false_eq_true, false_imp_iff, true_imp_iff, forall_const, or_true, true_or, ne_eq, Nat.zero_add, Nat.add_zero, Nat.le_refl, reduceCtorEq, Ft74, e98, l98, e99, l99, e104, l104, t98, and_self, g1, f1, f2, f3]
  refine ⟨rm_g (by decide) (by decide) (by decide) (by decide) (scl_r (by decide) (scl_r (by decide) (scl_i scl_n))) (scv_i (scv_r (by decide) scv_n)), by unfold pm_nf3; decide, Or.inr ⟨(scl_r (by decide) (scl_r (by decide) (scl_i scl_n))), (scv_r (by decide) (scv_i (scv_r (by decide) scv_n)))⟩, w_x22 (by decide) (by decide) (by decide) (show SH[98]? = some (0, 2) from rfl) (show SH[99]? = some (1, 10) from rfl) (show SH[100]? = some (1, 10) from rfl) (show SH[101]? = some (1, 100) from rfl) (show SH[102]? = some (1, 100) from rfl) (show SH[103]? = some (1, 100) from rfl) (b0_new q) (k_x0 (by decide)) yy_98 fun I1 L1 R1 c1 k1 => ?_⟩
  have q1 := b0_call (by decide) q c1 k1
  simp only [st_iload_n, st_iload, st_lload_n, st_aload_n, st_aload, st_istore_n, st_istore, st_astore_n, st_astore, st_iconst, st_bipush, st_sipush, st_lconst, st_ldc, st_ldc_w, st_ldc2_w, st_getfield, st_putfieldI, st_putfieldR, st_getstatic, st_iaload, st_iastore, st_baload, st_bastore, st_laload, st_lastore, st_aaload, st_aastore, st_arraylength, st_iadd, st_isub, st_imul, st_iand, st_ior, st_ixor, st_ishl, st_ishr, st_idiv, st_irem, st_ineg, st_land, st_lor, st_lshl, st_i2l, st_l2i, st_i2b, st_i2s, st_i2c, st_lcmp, st_iinc, st_dupI, st_dupR, st_dup2, st_pop, st_goto, st_if_eq, st_icmp_eq, st_if_ne, st_icmp_ne, st_if_lt, st_icmp_lt, st_if_ge, st_icmp_ge, st_if_gt, st_icmp_gt, st_if_le, st_icmp_le, st_tsw, st_lsw, st_newarray, st_anewarray, st_new, st_invokevirtual, st_invokespecial, oin_ref, st_static, st_max, st_min, st_abs, st_copyi, st_copyl, st_ireturn, st_lreturn, st_areturn, st_return, rn_succ, inl_nil, inl_cons, rno_some, oi_some, ol_some, or_some, lk_cons, ins_nil, ins_cons, rm_nil, rm_int, rm_ref, rm_long, pop_0, pop_1, pop_2, pop_3, pop_4, pop_5, pop_6, la_nil, la_int, la_ref, la_long, cat_nil, cat_int, cat_ref, cat_long, call_succ, cont_some, cont_none, rcv_0, rcv_1, rcv_2, rcv_3, rcv_4, rcv_5, rcv_6, rcv_7, rcv_8, rcv_s, rf_some, ret_0, ret_10, ret_11, ret_ite, ite_0, sw_nil, sw_cons, ln_some, isk_some, al_some, ↓reduceIte, Nat.reduceAdd, Nat.reduceEqDiff, Nat.reduceLeDiff, Nat.reduceLT, Int32.reduceLT, Int32.reduceLE, Int32.reduceToNatClampNeg, Int32.reduceOfNat, Int32.reduceAdd, Int32.reduceSub, Int.reduceEq, Int.reduceNeg, Int.reduceLT, Int32.reduceOfInt, Int64.reduceOfInt, Bool.false_eq_true, true_and, and_true, eq_self, not_true_eq_false, not_false_eq_true, false_imp_iff, true_imp_iff, forall_const, or_true, true_or, ne_eq, Nat.zero_add, Nat.add_zero, Nat.le_refl, reduceCtorEq, Ft74, e98, l98, e99, l99, e104, l104, t98, and_self, g1, f1, f2, f3]
  exact h _ _ _ (b0_1 (by decide) q1)
theorem w74_k5 (g : ro 0 = some 1) (q : B0 Ua Ub 104 ro io I L R)
    (h : ∀ I L R, B0 (pm_up Ua 5 (some 104)) Ub 110 (ro) (io) I L R → pm_wp X (d + 3) 74 187 [(0, .ref 0), (1, .ref 31), (2, .int 6)] [] 109 2957 (SH.take 110) I L R Q) : pm_wp X (d + 3) 74 187 [(0, .ref 0), (1, .ref 31), (2, .int 5)] [] 103 2627 (SH.take 104) I L R Q := by
  have g1 : R 0 0 = some 1 := (congrFun q.2.1.2.2 0).trans g
  have e104 : (SH.take 104)[0]? = some (0, 7) := (sh_at (by decide)).trans rfl
  have l104 : (SH.take 104).length = 104 := sh_ln (by decide)
  have e105 : (SH.take 105)[0]? = some (0, 7) := (sh_at (by decide)).trans rfl
  have l105 : (SH.take 105).length = 105 := sh_ln (by decide)
  have e110 : (SH.take 110)[0]? = some (0, 7) := (sh_at (by decide)).trans rfl
  have l110 : (SH.take 110).length = 110 := sh_ln (by decide)
  have t104 : SH.take 104 ++ [(0, 2)] = SH.take 105 := sh_tk rfl
  have f1 : (SH.take 110)[1]? = some (6, 6) := (sh_at (by decide)).trans rfl
  have f2 : (SH.take 110)[104]? = some (0, 2) := (sh_at (by decide)).trans rfl
  have f3 : vp_in 5 6 := by unfold vp_in; decide
  refine pm_gos (n := 60) (stops := [187]) ?_
  simp only [st_iload_n, st_iload, st_lload_n, st_aload_n, st_aload, st_istore_n, st_istore, st_astore_n, st_astore, st_iconst, st_bipush, st_sipush, st_lconst, st_ldc, st_ldc_w, st_ldc2_w, st_getfield, st_putfieldI, st_putfieldR, st_getstatic, st_iaload, st_iastore, st_baload, st_bastore, st_laload, st_lastore, st_aaload, st_aastore, st_arraylength, st_iadd, st_isub, st_imul, st_iand, st_ior, st_ixor, st_ishl, st_ishr, st_idiv, st_irem, st_ineg, st_land, st_lor, st_lshl, st_i2l, st_l2i, st_i2b, st_i2s, st_i2c, st_lcmp, st_iinc, st_dupI, st_dupR, st_dup2, st_pop, st_goto, st_if_eq, st_icmp_eq, st_if_ne, st_icmp_ne, st_if_lt, st_icmp_lt, st_if_ge, st_icmp_ge, st_if_gt, st_icmp_gt, st_if_le, st_icmp_le, st_tsw, st_lsw, st_newarray, st_anewarray, st_new, st_invokevirtual, st_invokespecial, oin_ref, st_static, st_max, st_min, st_abs, st_copyi, st_copyl, st_ireturn, st_lreturn, st_areturn, st_return, rn_succ, inl_nil, inl_cons, rno_some, oi_some, ol_some, or_some, lk_cons, ins_nil, ins_cons, rm_nil, rm_int, rm_ref, rm_long, pop_0, pop_1, pop_2, pop_3, pop_4, pop_5, pop_6, la_nil, la_int, la_ref, la_long, cat_nil, cat_int, cat_ref, cat_long, call_succ, cont_some, cont_none, rcv_0, rcv_1, rcv_2, rcv_3, rcv_4, rcv_5, rcv_6, rcv_7, rcv_8, rcv_s, rf_some, ret_0, ret_10, ret_11, ret_ite, ite_0, sw_nil, sw_cons, ln_some, isk_some, al_some, ↓reduceIte, Nat.reduceAdd, Nat.reduceEqDiff, Nat.reduceLeDiff, Nat.reduceLT, Int32.reduceLT, Int32.reduceLE, Int32.reduceToNatClampNeg, Int32.reduceOfNat, Int32.reduceAdd, Int32.reduceSub, Int.reduceEq, Int.reduceNeg, Int.reduceLT, Int32.reduceOfInt, Int64.reduceOfInt, Bool.false_eq_true, true_and, and_true, eq_self, not_true_eq_false, not_false_eq_true, false_imp_iff, true_imp_iff, forall_const, or_true, true_or, ne_eq, Nat.zero_add, Nat.add_zero, Nat.le_refl, reduceCtorEq, Ft74, e104, l104, e105, l105, e110, l110, t104, and_self, g1, f1, f2, f3]
  refine ⟨rm_g (by decide) (by decide) (by decide) (by decide) (scl_r (by decide) (scl_r (by decide) (scl_i scl_n))) (scv_i (scv_r (by decide) scv_n)), by unfold pm_nf3; decide, Or.inr ⟨(scl_r (by decide) (scl_r (by decide) (scl_i scl_n))), (scv_r (by decide) (scv_i (scv_r (by decide) scv_n)))⟩, w_x22 (by decide) (by decide) (by decide) (show SH[104]? = some (0, 2) from rfl) (show SH[105]? = some (1, 10) from rfl) (show SH[106]? = some (1, 10) from rfl) (show SH[107]? = some (1, 100) from rfl) (show SH[108]? = some (1, 100) from rfl) (show SH[109]? = some (1, 100) from rfl) (b0_new q) (k_x0 (by decide)) yy_104 fun I1 L1 R1 c1 k1 => ?_⟩
  have q1 := b0_call (by decide) q c1 k1
  simp only [st_iload_n, st_iload, st_lload_n, st_aload_n, st_aload, st_istore_n, st_istore, st_astore_n, st_astore, st_iconst, st_bipush, st_sipush, st_lconst, st_ldc, st_ldc_w, st_ldc2_w, st_getfield, st_putfieldI, st_putfieldR, st_getstatic, st_iaload, st_iastore, st_baload, st_bastore, st_laload, st_lastore, st_aaload, st_aastore, st_arraylength, st_iadd, st_isub, st_imul, st_iand, st_ior, st_ixor, st_ishl, st_ishr, st_idiv, st_irem, st_ineg, st_land, st_lor, st_lshl, st_i2l, st_l2i, st_i2b, st_i2s, st_i2c, st_lcmp, st_iinc, st_dupI, st_dupR, st_dup2, st_pop, st_goto, st_if_eq, st_icmp_eq, st_if_ne, st_icmp_ne, st_if_lt, st_icmp_lt, st_if_ge, st_icmp_ge, st_if_gt, st_icmp_gt, st_if_le, st_icmp_le, st_tsw, st_lsw, st_newarray, st_anewarray, st_new, st_invokevirtual, st_invokespecial, oin_ref, st_static, st_max, st_min, st_abs, st_copyi, st_copyl, st_ireturn, st_lreturn, st_areturn, st_return, rn_succ, inl_nil, inl_cons, rno_some, oi_some, ol_some, or_some, lk_cons, ins_nil, ins_cons, rm_nil, rm_int, rm_ref, rm_long, pop_0, pop_1, pop_2, pop_3, pop_4, pop_5, pop_6, la_nil, la_int, la_ref, la_long, cat_nil, cat_int, cat_ref, cat_long, call_succ, cont_some, cont_none, rcv_0, rcv_1, rcv_2, rcv_3, rcv_4, rcv_5, rcv_6, rcv_7, rcv_8, rcv_s, rf_some, ret_0, ret_10, ret_11, ret_ite, ite_0, sw_nil, sw_cons, ln_some, isk_some, al_some, ↓reduceIte, Nat.reduceAdd, Nat.reduceEqDiff, Nat.reduceLeDiff, Nat.reduceLT, Int32.reduceLT, Int32.reduceLE, Int32.reduceToNatClampNeg, Int32.reduceOfNat, Int32.reduceAdd, Int32.reduceSub, Int.reduceEq, Int.reduceNeg, Int.reduceLT, Int32.reduceOfInt, Int64.reduceOfInt, Bool.false_eq_true, true_and, and_true, eq_self, not_true_eq_false, not_false_eq_true, false_imp_iff, true_imp_iff, forall_const, or_true, true_or, ne_eq, Nat.zero_add, Nat.add_zero, Nat.le_refl, reduceCtorEq, Ft74, e104, l104, e105, l105, e110, l110, t104, and_self, g1, f1, f2, f3]
  exact h _ _ _ (b0_1 (by decide) q1)
theorem w74_t0 (g : ro 14 = some 30) (q : B0 Ua Ub 110 ro io I L R)
    (h : ∀ I L R, B0 Ua (pm_up Ub 0 (some 110)) 112 (ro) (io) I L R → pm_wp X (d + 3) 74 214 [(0, .ref 0), (1, .ref 31), (2, .int 1)] [] 111 3020 (SH.take 112) I L R Q) : pm_wp X (d + 3) 74 214 [(0, .ref 0), (1, .ref 31), (2, .int 0)] [] 109 2957 (SH.take 110) I L R Q := by
  have g1 : R 0 14 = some 30 := (congrFun q.2.1.2.2 14).trans g
  have e110 : (SH.take 110)[0]? = some (0, 7) := (sh_at (by decide)).trans rfl
  have l110 : (SH.take 110).length = 110 := sh_ln (by decide)
  have e111 : (SH.take 111)[0]? = some (0, 7) := (sh_at (by decide)).trans rfl
  have l111 : (SH.take 111).length = 111 := sh_ln (by decide)
  have e112 : (SH.take 112)[0]? = some (0, 7) := (sh_at (by decide)).trans rfl
  have l112 : (SH.take 112).length = 112 := sh_ln (by decide)
  have t110 : SH.take 110 ++ [(0, 6)] = SH.take 111 := sh_tk rfl
  have f1 : (SH.take 112)[30]? = some (10, 6) := (sh_at (by decide)).trans rfl
  have f2 : (SH.take 112)[110]? = some (0, 6) := (sh_at (by decide)).trans rfl
  have f3 : vp_in 0 6 := by unfold vp_in; decide
  refine pm_gos (n := 60) (stops := [214]) ?_
  simp only [st_iload_n, st_iload, st_lload_n, st_aload_n, st_aload, st_istore_n, st_istore, st_astore_n, st_astore, st_iconst, st_bipush, st_sipush, st_lconst, st_ldc, st_ldc_w, st_ldc2_w, st_getfield, st_putfieldI, st_putfieldR, st_getstatic, st_iaload, st_iastore, st_baload, st_bastore, st_laload, st_lastore, st_aaload, st_aastore, st_arraylength, st_iadd, st_isub, st_imul, st_iand, st_ior, st_ixor, st_ishl, st_ishr, st_idiv, st_irem, st_ineg, st_land, st_lor, st_lshl, st_i2l, st_l2i, st_i2b, st_i2s, st_i2c, st_lcmp, st_iinc, st_dupI, st_dupR, st_dup2, st_pop, st_goto, st_if_eq, st_icmp_eq, st_if_ne, st_icmp_ne, st_if_lt, st_icmp_lt, st_if_ge, st_icmp_ge, st_if_gt, st_icmp_gt, st_if_le, st_icmp_le, st_tsw, st_lsw, st_newarray, st_anewarray, st_new, st_invokevirtual, st_invokespecial, oin_ref, st_static, st_max, st_min, st_abs, st_copyi, st_copyl, st_ireturn, st_lreturn, st_areturn, st_return, rn_succ, inl_nil, inl_cons, rno_some, oi_some, ol_some, or_some, lk_cons, ins_nil, ins_cons, rm_nil, rm_int, rm_ref, rm_long, pop_0, pop_1, pop_2, pop_3, pop_4, pop_5, pop_6, la_nil, la_int, la_ref, la_long, cat_nil, cat_int, cat_ref, cat_long, call_succ, cont_some, cont_none, rcv_0, rcv_1, rcv_2, rcv_3, rcv_4, rcv_5, rcv_6, rcv_7, rcv_8, rcv_s, rf_some, ret_0, ret_10, ret_11, ret_ite, ite_0, sw_nil, sw_cons, ln_some, isk_some, al_some, ↓reduceIte, Nat.reduceAdd, Nat.reduceEqDiff, Nat.reduceLeDiff, Nat.reduceLT, Int32.reduceLT, Int32.reduceLE, Int32.reduceToNatClampNeg, Int32.reduceOfNat, Int32.reduceAdd, Int32.reduceSub, Int.reduceEq, Int.reduceNeg, Int.reduceLT, Int32.reduceOfInt, Int64.reduceOfInt, Bool.false_eq_true, true_and, and_true, eq_self, not_true_eq_false, not_false_eq_true, false_imp_iff, true_imp_iff, forall_const, or_true, true_or, ne_eq, Nat.zero_add, Nat.add_zero, Nat.le_refl, reduceCtorEq, Ft74, e110, l110, e111, l111, e112, l112, t110, and_self, g1, f1, f2, f3]
  refine ⟨rm_g (by decide) (by decide) (by decide) (by decide) (scl_r (by decide) (scl_r (by decide) (scl_i scl_n))) (scv_i (scv_r (by decide) scv_n)), by unfold pm_nf3; decide, Or.inr ⟨(scl_r (by decide) (scl_r (by decide) (scl_i scl_n))), (scv_r (by decide) (scv_i (scv_r (by decide) scv_n)))⟩, w_x69 (by decide) (by decide) (by decide) (show SH[110]? = some (0, 6) from rfl) (show SH[111]? = some (3, 60) from rfl) (b0_new q) (t_x0 (by decide)) rfl (Eq.symm yy_110) (ar_y (show SH[111]? = some (3, 60) from rfl) (by decide) (by decide) (by decide)).2 fun I1 L1 R1 c1 k1 => ?_⟩
  have q1 := b0_call (by decide) q c1 k1
  simp only [st_iload_n, st_iload, st_lload_n, st_aload_n, st_aload, st_istore_n, st_istore, st_astore_n, st_astore, st_iconst, st_bipush, st_sipush, st_lconst, st_ldc, st_ldc_w, st_ldc2_w, st_getfield, st_putfieldI, st_putfieldR, st_getstatic, st_iaload, st_iastore, st_baload, st_bastore, st_laload, st_lastore, st_aaload, st_aastore, st_arraylength, st_iadd, st_isub, st_imul, st_iand, st_ior, st_ixor, st_ishl, st_ishr, st_idiv, st_irem, st_ineg, st_land, st_lor, st_lshl, st_i2l, st_l2i, st_i2b, st_i2s, st_i2c, st_lcmp, st_iinc, st_dupI, st_dupR, st_dup2, st_pop, st_goto, st_if_eq, st_icmp_eq, st_if_ne, st_icmp_ne, st_if_lt, st_icmp_lt, st_if_ge, st_icmp_ge, st_if_gt, st_icmp_gt, st_if_le, st_icmp_le, st_tsw, st_lsw, st_newarray, st_anewarray, st_new, st_invokevirtual, st_invokespecial, oin_ref, st_static, st_max, st_min, st_abs, st_copyi, st_copyl, st_ireturn, st_lreturn, st_areturn, st_return, rn_succ, inl_nil, inl_cons, rno_some, oi_some, ol_some, or_some, lk_cons, ins_nil, ins_cons, rm_nil, rm_int, rm_ref, rm_long, pop_0, pop_1, pop_2, pop_3, pop_4, pop_5, pop_6, la_nil, la_int, la_ref, la_long, cat_nil, cat_int, cat_ref, cat_long, call_succ, cont_some, cont_none, rcv_0, rcv_1, rcv_2, rcv_3, rcv_4, rcv_5, rcv_6, rcv_7, rcv_8, rcv_s, rf_some, ret_0, ret_10, ret_11, ret_ite, ite_0, sw_nil, sw_cons, ln_some, isk_some, al_some, ↓reduceIte, Nat.reduceAdd, Nat.reduceEqDiff, Nat.reduceLeDiff, Nat.reduceLT, Int32.reduceLT, Int32.reduceLE, Int32.reduceToNatClampNeg, Int32.reduceOfNat, Int32.reduceAdd, Int32.reduceSub, Int.reduceEq, Int.reduceNeg, Int.reduceLT, Int32.reduceOfInt, Int64.reduceOfInt, Bool.false_eq_true, true_and, and_true, eq_self, not_true_eq_false, not_false_eq_true, false_imp_iff, true_imp_iff, forall_const, or_true, true_or, ne_eq, Nat.zero_add, Nat.add_zero, Nat.le_refl, reduceCtorEq, Ft74, e110, l110, e111, l111, e112, l112, t110, and_self, g1, f1, f2, f3]
  exact h _ _ _ (b0_30 (by decide) q1)
theorem w74_t1 (g : ro 14 = some 30) (q : B0 Ua Ub 112 ro io I L R)
    (h : ∀ I L R, B0 Ua (pm_up Ub 1 (some 112)) 114 (ro) (io) I L R → pm_wp X (d + 3) 74 214 [(0, .ref 0), (1, .ref 31), (2, .int 2)] [] 113 3083 (SH.take 114) I L R Q) : pm_wp X (d + 3) 74 214 [(0, .ref 0), (1, .ref 31), (2, .int 1)] [] 111 3020 (SH.take 112) I L R Q := by
  have g1 : R 0 14 = some 30 := (congrFun q.2.1.2.2 14).trans g
  have e112 : (SH.take 112)[0]? = some (0, 7) := (sh_at (by decide)).trans rfl
  have l112 : (SH.take 112).length = 112 := sh_ln (by decide)
  have e113 : (SH.take 113)[0]? = some (0, 7) := (sh_at (by decide)).trans rfl
  have l113 : (SH.take 113).length = 113 := sh_ln (by decide)
  have e114 : (SH.take 114)[0]? = some (0, 7) := (sh_at (by decide)).trans rfl
  have l114 : (SH.take 114).length = 114 := sh_ln (by decide)
  have t112 : SH.take 112 ++ [(0, 6)] = SH.take 113 := sh_tk rfl
  have f1 : (SH.take 114)[30]? = some (10, 6) := (sh_at (by decide)).trans rfl
  have f2 : (SH.take 114)[112]? = some (0, 6) := (sh_at (by decide)).trans rfl
  have f3 : vp_in 1 6 := by unfold vp_in; decide
  refine pm_gos (n := 60) (stops := [214]) ?_
  simp only [st_iload_n, st_iload, st_lload_n, st_aload_n, st_aload, st_istore_n, st_istore, st_astore_n, st_astore, st_iconst, st_bipush, st_sipush, st_lconst, st_ldc, st_ldc_w, st_ldc2_w, st_getfield, st_putfieldI, st_putfieldR, st_getstatic, st_iaload, st_iastore, st_baload, st_bastore, st_laload, st_lastore, st_aaload, st_aastore, st_arraylength, st_iadd, st_isub, st_imul, st_iand, st_ior, st_ixor, st_ishl, st_ishr, st_idiv, st_irem, st_ineg, st_land, st_lor, st_lshl, st_i2l, st_l2i, st_i2b, st_i2s, st_i2c, st_lcmp, st_iinc, st_dupI, st_dupR, st_dup2, st_pop, st_goto, st_if_eq, st_icmp_eq, st_if_ne, st_icmp_ne, st_if_lt, st_icmp_lt, st_if_ge, st_icmp_ge, st_if_gt, st_icmp_gt, st_if_le, st_icmp_le, st_tsw, st_lsw, st_newarray, st_anewarray, st_new, st_invokevirtual, st_invokespecial, oin_ref, st_static, st_max, st_min, st_abs, st_copyi, st_copyl, st_ireturn, st_lreturn, st_areturn, st_return, rn_succ, inl_nil, inl_cons, rno_some, oi_some, ol_some, or_some, lk_cons, ins_nil, ins_cons, rm_nil, rm_int, rm_ref, rm_long, pop_0, pop_1, pop_2, pop_3, pop_4, pop_5, pop_6, la_nil, la_int, la_ref, la_long, cat_nil, cat_int, cat_ref, cat_long, call_succ, cont_some, cont_none, rcv_0, rcv_1, rcv_2, rcv_3, rcv_4, rcv_5, rcv_6, rcv_7, rcv_8, rcv_s, rf_some, ret_0, ret_10, ret_11, ret_ite, ite_0, sw_nil, sw_cons, ln_some, isk_some, al_some, ↓reduceIte, Nat.reduceAdd, Nat.reduceEqDiff, Nat.reduceLeDiff, Nat.reduceLT, Int32.reduceLT, Int32.reduceLE, Int32.reduceToNatClampNeg, Int32.reduceOfNat, Int32.reduceAdd, Int32.reduceSub, Int.reduceEq, Int.reduceNeg, Int.reduceLT, Int32.reduceOfInt, Int64.reduceOfInt, Bool.false_eq_true, true_and, and_true, eq_self, not_true_eq_false, not_false_eq_true, false_imp_iff, true_imp_iff, forall_const, or_true, true_or, ne_eq, Nat.zero_add, Nat.add_zero, Nat.le_refl, reduceCtorEq, Ft74, e112, l112, e113, l113, e114, l114, t112, and_self, g1, f1, f2, f3]
  refine ⟨rm_g (by decide) (by decide) (by decide) (by decide) (scl_r (by decide) (scl_r (by decide) (scl_i scl_n))) (scv_i (scv_r (by decide) scv_n)), by unfold pm_nf3; decide, Or.inr ⟨(scl_r (by decide) (scl_r (by decide) (scl_i scl_n))), (scv_r (by decide) (scv_i (scv_r (by decide) scv_n)))⟩, w_x69 (by decide) (by decide) (by decide) (show SH[112]? = some (0, 6) from rfl) (show SH[113]? = some (3, 60) from rfl) (b0_new q) (t_x0 (by decide)) rfl (Eq.symm yy_112) (ar_y (show SH[113]? = some (3, 60) from rfl) (by decide) (by decide) (by decide)).2 fun I1 L1 R1 c1 k1 => ?_⟩
  have q1 := b0_call (by decide) q c1 k1
  simp only [st_iload_n, st_iload, st_lload_n, st_aload_n, st_aload, st_istore_n, st_istore, st_astore_n, st_astore, st_iconst, st_bipush, st_sipush, st_lconst, st_ldc, st_ldc_w, st_ldc2_w, st_getfield, st_putfieldI, st_putfieldR, st_getstatic, st_iaload, st_iastore, st_baload, st_bastore, st_laload, st_lastore, st_aaload, st_aastore, st_arraylength, st_iadd, st_isub, st_imul, st_iand, st_ior, st_ixor, st_ishl, st_ishr, st_idiv, st_irem, st_ineg, st_land, st_lor, st_lshl, st_i2l, st_l2i, st_i2b, st_i2s, st_i2c, st_lcmp, st_iinc, st_dupI, st_dupR, st_dup2, st_pop, st_goto, st_if_eq, st_icmp_eq, st_if_ne, st_icmp_ne, st_if_lt, st_icmp_lt, st_if_ge, st_icmp_ge, st_if_gt, st_icmp_gt, st_if_le, st_icmp_le, st_tsw, st_lsw, st_newarray, st_anewarray, st_new, st_invokevirtual, st_invokespecial, oin_ref, st_static, st_max, st_min, st_abs, st_copyi, st_copyl, st_ireturn, st_lreturn, st_areturn, st_return, rn_succ, inl_nil, inl_cons, rno_some, oi_some, ol_some, or_some, lk_cons, ins_nil, ins_cons, rm_nil, rm_int, rm_ref, rm_long, pop_0, pop_1, pop_2, pop_3, pop_4, pop_5, pop_6, la_nil, la_int, la_ref, la_long, cat_nil, cat_int, cat_ref, cat_long, call_succ, cont_some, cont_none, rcv_0, rcv_1, rcv_2, rcv_3, rcv_4, rcv_5, rcv_6, rcv_7, rcv_8, rcv_s, rf_some, ret_0, ret_10, ret_11, ret_ite, ite_0, sw_nil, sw_cons, ln_some, isk_some, al_some, ↓reduceIte, Nat.reduceAdd, Nat.reduceEqDiff, Nat.reduceLeDiff, Nat.reduceLT, Int32.reduceLT, Int32.reduceLE, Int32.reduceToNatClampNeg, Int32.reduceOfNat, Int32.reduceAdd, Int32.reduceSub, Int.reduceEq, Int.reduceNeg, Int.reduceLT, Int32.reduceOfInt, Int64.reduceOfInt, Bool.false_eq_true, true_and, and_true, eq_self, not_true_eq_false, not_false_eq_true, false_imp_iff, true_imp_iff, forall_const, or_true, true_or, ne_eq, Nat.zero_add, Nat.add_zero, Nat.le_refl, reduceCtorEq, Ft74, e112, l112, e113, l113, e114, l114, t112, and_self, g1, f1, f2, f3]
  exact h _ _ _ (b0_30 (by decide) q1)
theorem w74_t2 (g : ro 14 = some 30) (q : B0 Ua Ub 114 ro io I L R)
    (h : ∀ I L R, B0 Ua (pm_up Ub 2 (some 114)) 116 (ro) (io) I L R → pm_wp X (d + 3) 74 214 [(0, .ref 0), (1, .ref 31), (2, .int 3)] [] 115 3146 (SH.take 116) I L R Q) : pm_wp X (d + 3) 74 214 [(0, .ref 0), (1, .ref 31), (2, .int 2)] [] 113 3083 (SH.take 114) I L R Q := by
  have g1 : R 0 14 = some 30 := (congrFun q.2.1.2.2 14).trans g
  have e114 : (SH.take 114)[0]? = some (0, 7) := (sh_at (by decide)).trans rfl
  have l114 : (SH.take 114).length = 114 := sh_ln (by decide)
  have e115 : (SH.take 115)[0]? = some (0, 7) := (sh_at (by decide)).trans rfl
  have l115 : (SH.take 115).length = 115 := sh_ln (by decide)
  have e116 : (SH.take 116)[0]? = some (0, 7) := (sh_at (by decide)).trans rfl
  have l116 : (SH.take 116).length = 116 := sh_ln (by decide)
  have t114 : SH.take 114 ++ [(0, 6)] = SH.take 115 := sh_tk rfl
  have f1 : (SH.take 116)[30]? = some (10, 6) := (sh_at (by decide)).trans rfl
  have f2 : (SH.take 116)[114]? = some (0, 6) := (sh_at (by decide)).trans rfl
  have f3 : vp_in 2 6 := by unfold vp_in; decide
  refine pm_gos (n := 60) (stops := [214]) ?_
  simp only [st_iload_n, st_iload, st_lload_n, st_aload_n, st_aload, st_istore_n, st_istore, st_astore_n, st_astore, st_iconst, st_bipush, st_sipush, st_lconst, st_ldc, st_ldc_w, st_ldc2_w, st_getfield, st_putfieldI, st_putfieldR, st_getstatic, st_iaload, st_iastore, st_baload, st_bastore, st_laload, st_lastore, st_aaload, st_aastore, st_arraylength, st_iadd, st_isub, st_imul, st_iand, st_ior, st_ixor, st_ishl, st_ishr, st_idiv, st_irem, st_ineg, st_land, st_lor, st_lshl, st_i2l, st_l2i, st_i2b, st_i2s, st_i2c, st_lcmp, st_iinc, st_dupI, st_dupR, st_dup2, st_pop, st_goto, st_if_eq, st_icmp_eq, st_if_ne, st_icmp_ne, st_if_lt, st_icmp_lt, st_if_ge, st_icmp_ge, st_if_gt, st_icmp_gt, st_if_le, st_icmp_le, st_tsw, st_lsw, st_newarray, st_anewarray, st_new, st_invokevirtual, st_invokespecial, oin_ref, st_static, st_max, st_min, st_abs, st_copyi, st_copyl, st_ireturn, st_lreturn, st_areturn, st_return, rn_succ, inl_nil, inl_cons, rno_some, oi_some, ol_some, or_some, lk_cons, ins_nil, ins_cons, rm_nil, rm_int, rm_ref, rm_long, pop_0, pop_1, pop_2, pop_3, pop_4, pop_5, pop_6, la_nil, la_int, la_ref, la_long, cat_nil, cat_int, cat_ref, cat_long, call_succ, cont_some, cont_none, rcv_0, rcv_1, rcv_2, rcv_3, rcv_4, rcv_5, rcv_6, rcv_7, rcv_8, rcv_s, rf_some, ret_0, ret_10, ret_11, ret_ite, ite_0, sw_nil, sw_cons, ln_some, isk_some, al_some, ↓reduceIte, Nat.reduceAdd, Nat.reduceEqDiff, Nat.reduceLeDiff, Nat.reduceLT, Int32.reduceLT, Int32.reduceLE, Int32.reduceToNatClampNeg, Int32.reduceOfNat, Int32.reduceAdd, Int32.reduceSub, Int.reduceEq, Int.reduceNeg, Int.reduceLT, Int32.reduceOfInt, Int64.reduceOfInt, Bool.false_eq_true, true_and, and_true, eq_self, not_true_eq_false, not_false_eq_true, false_imp_iff, true_imp_iff, forall_const, or_true, true_or, ne_eq, Nat.zero_add, Nat.add_zero, Nat.le_refl, reduceCtorEq, Ft74, e114, l114, e115, l115, e116, l116, t114, and_self, g1, f1, f2, f3]
  refine ⟨rm_g (by decide) (by decide) (by decide) (by decide) (scl_r (by decide) (scl_r (by decide) (scl_i scl_n))) (scv_i (scv_r (by decide) scv_n)), by unfold pm_nf3; decide, Or.inr ⟨(scl_r (by decide) (scl_r (by decide) (scl_i scl_n))), (scv_r (by decide) (scv_i (scv_r (by decide) scv_n)))⟩, w_x69 (by decide) (by decide) (by decide) (show SH[114]? = some (0, 6) from rfl) (show SH[115]? = some (3, 60) from rfl) (b0_new q) (t_x0 (by decide)) rfl (Eq.symm yy_114) (ar_y (show SH[115]? = some (3, 60) from rfl) (by decide) (by decide) (by decide)).2 fun I1 L1 R1 c1 k1 => ?_⟩
  have q1 := b0_call (by decide) q c1 k1
  simp only [st_iload_n, st_iload, st_lload_n, st_aload_n, st_aload, st_istore_n, st_istore, st_astore_n, st_astore, st_iconst, st_bipush, st_sipush, st_lconst, st_ldc, st_ldc_w, st_ldc2_w, st_getfield, st_putfieldI, st_putfieldR, st_getstatic, st_iaload, st_iastore, st_baload, st_bastore, st_laload, st_lastore, st_aaload, st_aastore, st_arraylength, st_iadd, st_isub, st_imul, st_iand, st_ior, st_ixor, st_ishl, st_ishr, st_idiv, st_irem, st_ineg, st_land, st_lor, st_lshl, st_i2l, st_l2i, st_i2b, st_i2s, st_i2c, st_lcmp, st_iinc, st_dupI, st_dupR, st_dup2, st_pop, st_goto, st_if_eq, st_icmp_eq, st_if_ne, st_icmp_ne, st_if_lt, st_icmp_lt, st_if_ge, st_icmp_ge, st_if_gt, st_icmp_gt, st_if_le, st_icmp_le, st_tsw, st_lsw, st_newarray, st_anewarray, st_new, st_invokevirtual, st_invokespecial, oin_ref, st_static, st_max, st_min, st_abs, st_copyi, st_copyl, st_ireturn, st_lreturn, st_areturn, st_return, rn_succ, inl_nil, inl_cons, rno_some, oi_some, ol_some, or_some, lk_cons, ins_nil, ins_cons, rm_nil, rm_int, rm_ref, rm_long, pop_0, pop_1, pop_2, pop_3, pop_4, pop_5, pop_6, la_nil, la_int, la_ref, la_long, cat_nil, cat_int, cat_ref, cat_long, call_succ, cont_some, cont_none, rcv_0, rcv_1, rcv_2, rcv_3, rcv_4, rcv_5, rcv_6, rcv_7, rcv_8, rcv_s, rf_some, ret_0, ret_10, ret_11, ret_ite, ite_0, sw_nil, sw_cons, ln_some, isk_some, al_some, ↓reduceIte, Nat.reduceAdd, Nat.reduceEqDiff, Nat.reduceLeDiff, Nat.reduceLT, Int32.reduceLT, Int32.reduceLE, Int32.reduceToNatClampNeg, Int32.reduceOfNat, Int32.reduceAdd, Int32.reduceSub, Int.reduceEq, Int.reduceNeg, Int.reduceLT, Int32.reduceOfInt, Int64.reduceOfInt, Bool.false_eq_true, true_and, and_true, eq_self, not_true_eq_false, not_false_eq_true, false_imp_iff, true_imp_iff, forall_const, or_true, true_or, ne_eq, Nat.zero_add, Nat.add_zero, Nat.le_refl, reduceCtorEq, Ft74, e114, l114, e115, l115, e116, l116, t114, and_self, g1, f1, f2, f3]
  exact h _ _ _ (b0_30 (by decide) q1)
theorem w74_t3 (g : ro 14 = some 30) (q : B0 Ua Ub 116 ro io I L R)
    (h : ∀ I L R, B0 Ua (pm_up Ub 3 (some 116)) 118 (ro) (io) I L R → pm_wp X (d + 3) 74 214 [(0, .ref 0), (1, .ref 31), (2, .int 4)] [] 117 3209 (SH.take 118) I L R Q) : pm_wp X (d + 3) 74 214 [(0, .ref 0), (1, .ref 31), (2, .int 3)] [] 115 3146 (SH.take 116) I L R Q := by
  have g1 : R 0 14 = some 30 := (congrFun q.2.1.2.2 14).trans g
  have e116 : (SH.take 116)[0]? = some (0, 7) := (sh_at (by decide)).trans rfl
  have l116 : (SH.take 116).length = 116 := sh_ln (by decide)
  have e117 : (SH.take 117)[0]? = some (0, 7) := (sh_at (by decide)).trans rfl
  have l117 : (SH.take 117).length = 117 := sh_ln (by decide)
  have e118 : (SH.take 118)[0]? = some (0, 7) := (sh_at (by decide)).trans rfl
  have l118 : (SH.take 118).length = 118 := sh_ln (by decide)
  have t116 : SH.take 116 ++ [(0, 6)] = SH.take 117 := sh_tk rfl
  have f1 : (SH.take 118)[30]? = some (10, 6) := (sh_at (by decide)).trans rfl
  have f2 : (SH.take 118)[116]? = some (0, 6) := (sh_at (by decide)).trans rfl
  have f3 : vp_in 3 6 := by unfold vp_in; decide
  refine pm_gos (n := 60) (stops := [214]) ?_
  simp only [st_iload_n, st_iload, st_lload_n, st_aload_n, st_aload, st_istore_n, st_istore, st_astore_n, st_astore, st_iconst, st_bipush, st_sipush, st_lconst, st_ldc, st_ldc_w, st_ldc2_w, st_getfield, st_putfieldI, st_putfieldR, st_getstatic, st_iaload, st_iastore, st_baload, st_bastore, st_laload, st_lastore, st_aaload, st_aastore, st_arraylength, st_iadd, st_isub, st_imul, st_iand, st_ior, st_ixor, st_ishl, st_ishr, st_idiv, st_irem, st_ineg, st_land, st_lor, st_lshl, st_i2l, st_l2i, st_i2b, st_i2s, st_i2c, st_lcmp, st_iinc, st_dupI, st_dupR, st_dup2, st_pop, st_goto, st_if_eq, st_icmp_eq, st_if_ne, st_icmp_ne, st_if_lt, st_icmp_lt, st_if_ge, st_icmp_ge, st_if_gt, st_icmp_gt, st_if_le, st_icmp_le, st_tsw, st_lsw, st_newarray, st_anewarray, st_new, st_invokevirtual, st_invokespecial, oin_ref, st_static, st_max, st_min, st_abs, st_copyi, st_copyl, st_ireturn, st_lreturn, st_areturn, st_return, rn_succ, inl_nil, inl_cons, rno_some, oi_some, ol_some, or_some, lk_cons, ins_nil, ins_cons, rm_nil, rm_int, rm_ref, rm_long, pop_0, pop_1, pop_2, pop_3, pop_4, pop_5, pop_6, la_nil, la_int, la_ref, la_long, cat_nil, cat_int, cat_ref, cat_long, call_succ, cont_some, cont_none, rcv_0, rcv_1, rcv_2, rcv_3, rcv_4, rcv_5, rcv_6, rcv_7, rcv_8, rcv_s, rf_some, ret_0, ret_10, ret_11, ret_ite, ite_0, sw_nil, sw_cons, ln_some, isk_some, al_some, ↓reduceIte, Nat.reduceAdd, Nat.reduceEqDiff, Nat.reduceLeDiff, Nat.reduceLT, Int32.reduceLT, Int32.reduceLE, Int32.reduceToNatClampNeg, Int32.reduceOfNat, Int32.reduceAdd, Int32.reduceSub, Int.reduceEq, Int.reduceNeg, Int.reduceLT, Int32.reduceOfInt, Int64.reduceOfInt, Bool.false_eq_true, true_and, and_true, eq_self, not_true_eq_false, not_false_eq_true, false_imp_iff, true_imp_iff, forall_const, or_true, true_or, ne_eq, Nat.zero_add, Nat.add_zero, Nat.le_refl, reduceCtorEq, Ft74, e116, l116, e117, l117, e118, l118, t116, and_self, g1, f1, f2, f3]
  refine ⟨rm_g (by decide) (by decide) (by decide) (by decide) (scl_r (by decide) (scl_r (by decide) (scl_i scl_n))) (scv_i (scv_r (by decide) scv_n)), by unfold pm_nf3; decide, Or.inr ⟨(scl_r (by decide) (scl_r (by decide) (scl_i scl_n))), (scv_r (by decide) (scv_i (scv_r (by decide) scv_n)))⟩, w_x69 (by decide) (by decide) (by decide) (show SH[116]? = some (0, 6) from rfl) (show SH[117]? = some (3, 60) from rfl) (b0_new q) (t_x0 (by decide)) rfl (Eq.symm yy_116) (ar_y (show SH[117]? = some (3, 60) from rfl) (by decide) (by decide) (by decide)).2 fun I1 L1 R1 c1 k1 => ?_⟩
  have q1 := b0_call (by decide) q c1 k1
  simp only [st_iload_n, st_iload, st_lload_n, st_aload_n, st_aload, st_istore_n, st_istore, st_astore_n, st_astore, st_iconst, st_bipush, st_sipush, st_lconst, st_ldc, st_ldc_w, st_ldc2_w, st_getfield, st_putfieldI, st_putfieldR, st_getstatic, st_iaload, st_iastore, st_baload, st_bastore, st_laload, st_lastore, st_aaload, st_aastore, st_arraylength, st_iadd, st_isub, st_imul, st_iand, st_ior, st_ixor, st_ishl, st_ishr, st_idiv, st_irem, st_ineg, st_land, st_lor, st_lshl, st_i2l, st_l2i, st_i2b, st_i2s, st_i2c, st_lcmp, st_iinc, st_dupI, st_dupR, st_dup2, st_pop, st_goto, st_if_eq, st_icmp_eq, st_if_ne, st_icmp_ne, st_if_lt, st_icmp_lt, st_if_ge, st_icmp_ge, st_if_gt, st_icmp_gt, st_if_le, st_icmp_le, st_tsw, st_lsw, st_newarray, st_anewarray, st_new, st_invokevirtual, st_invokespecial, oin_ref, st_static, st_max, st_min, st_abs, st_copyi, st_copyl, st_ireturn, st_lreturn, st_areturn, st_return, rn_succ, inl_nil, inl_cons, rno_some, oi_some, ol_some, or_some, lk_cons, ins_nil, ins_cons, rm_nil, rm_int, rm_ref, rm_long, pop_0, pop_1, pop_2, pop_3, pop_4, pop_5, pop_6, la_nil, la_int, la_ref, la_long, cat_nil, cat_int, cat_ref, cat_long, call_succ, cont_some, cont_none, rcv_0, rcv_1, rcv_2, rcv_3, rcv_4, rcv_5, rcv_6, rcv_7, rcv_8, rcv_s, rf_some, ret_0, ret_10, ret_11, ret_ite, ite_0, sw_nil, sw_cons, ln_some, isk_some, al_some, ↓reduceIte, Nat.reduceAdd, Nat.reduceEqDiff, Nat.reduceLeDiff, Nat.reduceLT, Int32.reduceLT, Int32.reduceLE, Int32.reduceToNatClampNeg, Int32.reduceOfNat, Int32.reduceAdd, Int32.reduceSub, Int.reduceEq, Int.reduceNeg, Int.reduceLT, Int32.reduceOfInt, Int64.reduceOfInt, Bool.false_eq_true, true_and, and_true, eq_self, not_true_eq_false, not_false_eq_true, false_imp_iff, true_imp_iff, forall_const, or_true, true_or, ne_eq, Nat.zero_add, Nat.add_zero, Nat.le_refl, reduceCtorEq, Ft74, e116, l116, e117, l117, e118, l118, t116, and_self, g1, f1, f2, f3]
  exact h _ _ _ (b0_30 (by decide) q1)
theorem w74_t4 (g : ro 14 = some 30) (q : B0 Ua Ub 118 ro io I L R)
    (h : ∀ I L R, B0 Ua (pm_up Ub 4 (some 118)) 120 (ro) (io) I L R → pm_wp X (d + 3) 74 214 [(0, .ref 0), (1, .ref 31), (2, .int 5)] [] 119 3272 (SH.take 120) I L R Q) : pm_wp X (d + 3) 74 214 [(0, .ref 0), (1, .ref 31), (2, .int 4)] [] 117 3209 (SH.take 118) I L R Q := by
  have g1 : R 0 14 = some 30 := (congrFun q.2.1.2.2 14).trans g
  have e118 : (SH.take 118)[0]? = some (0, 7) := (sh_at (by decide)).trans rfl
  have l118 : (SH.take 118).length = 118 := sh_ln (by decide)
  have e119 : (SH.take 119)[0]? = some (0, 7) := (sh_at (by decide)).trans rfl
  have l119 : (SH.take 119).length = 119 := sh_ln (by decide)
  have e120 : (SH.take 120)[0]? = some (0, 7) := (sh_at (by decide)).trans rfl
  have l120 : (SH.take 120).length = 120 := sh_ln (by decide)
  have t118 : SH.take 118 ++ [(0, 6)] = SH.take 119 := sh_tk rfl
  have f1 : (SH.take 120)[30]? = some (10, 6) := (sh_at (by decide)).trans rfl
  have f2 : (SH.take 120)[118]? = some (0, 6) := (sh_at (by decide)).trans rfl
  have f3 : vp_in 4 6 := by unfold vp_in; decide
  refine pm_gos (n := 60) (stops := [214]) ?_
  simp only [st_iload_n, st_iload, st_lload_n, st_aload_n, st_aload, st_istore_n, st_istore, st_astore_n, st_astore, st_iconst, st_bipush, st_sipush, st_lconst, st_ldc, st_ldc_w, st_ldc2_w, st_getfield, st_putfieldI, st_putfieldR, st_getstatic, st_iaload, st_iastore, st_baload, st_bastore, st_laload, st_lastore, st_aaload, st_aastore, st_arraylength, st_iadd, st_isub, st_imul, st_iand, st_ior, st_ixor, st_ishl, st_ishr, st_idiv, st_irem, st_ineg, st_land, st_lor, st_lshl, st_i2l, st_l2i, st_i2b, st_i2s, st_i2c, st_lcmp, st_iinc, st_dupI, st_dupR, st_dup2, st_pop, st_goto, st_if_eq, st_icmp_eq, st_if_ne, st_icmp_ne, st_if_lt, st_icmp_lt, st_if_ge, st_icmp_ge, st_if_gt, st_icmp_gt, st_if_le, st_icmp_le, st_tsw, st_lsw, st_newarray, st_anewarray, st_new, st_invokevirtual, st_invokespecial, oin_ref, st_static, st_max, st_min, st_abs, st_copyi, st_copyl, st_ireturn, st_lreturn, st_areturn, st_return, rn_succ, inl_nil, inl_cons, rno_some, oi_some, ol_some, or_some, lk_cons, ins_nil, ins_cons, rm_nil, rm_int, rm_ref, rm_long, pop_0, pop_1, pop_2, pop_3, pop_4, pop_5, pop_6, la_nil, la_int, la_ref, la_long, cat_nil, cat_int, cat_ref, cat_long, call_succ, cont_some, cont_none, rcv_0, rcv_1, rcv_2, rcv_3, rcv_4, rcv_5, rcv_6, rcv_7, rcv_8, rcv_s, rf_some, ret_0, ret_10, ret_11, ret_ite, ite_0, sw_nil, sw_cons, ln_some, isk_some, al_some, ↓reduceIte, Nat.reduceAdd, Nat.reduceEqDiff, Nat.reduceLeDiff, Nat.reduceLT, Int32.reduceLT, Int32.reduceLE, Int32.reduceToNatClampNeg, Int32.reduceOfNat, Int32.reduceAdd, Int32.reduceSub, Int.reduceEq, Int.reduceNeg, Int.reduceLT, Int32.reduceOfInt, Int64.reduceOfInt, Bool.false_eq_true, true_and, and_true, eq_self, not_true_eq_false, not_false_eq_true, false_imp_iff, true_imp_iff, forall_const, or_true, true_or, ne_eq, Nat.zero_add, Nat.add_zero, Nat.le_refl, reduceCtorEq, Ft74, e118, l118, e119, l119, e120, l120, t118, and_self, g1, f1, f2, f3]
  refine ⟨rm_g (by decide) (by decide) (by decide) (by decide) (scl_r (by decide) (scl_r (by decide) (scl_i scl_n))) (scv_i (scv_r (by decide) scv_n)), by unfold pm_nf3; decide, Or.inr ⟨(scl_r (by decide) (scl_r (by decide) (scl_i scl_n))), (scv_r (by decide) (scv_i (scv_r (by decide) scv_n)))⟩, w_x69 (by decide) (by decide) (by decide) (show SH[118]? = some (0, 6) from rfl) (show SH[119]? = some (3, 60) from rfl) (b0_new q) (t_x0 (by decide)) rfl (Eq.symm yy_118) (ar_y (show SH[119]? = some (3, 60) from rfl) (by decide) (by decide) (by decide)).2 fun I1 L1 R1 c1 k1 => ?_⟩
  have q1 := b0_call (by decide) q c1 k1
  simp only [st_iload_n, st_iload, st_lload_n, st_aload_n, st_aload, st_istore_n, st_istore, st_astore_n, st_astore, st_iconst, st_bipush, st_sipush, st_lconst, st_ldc, st_ldc_w, st_ldc2_w, st_getfield, st_putfieldI, st_putfieldR, st_getstatic, st_iaload, st_iastore, st_baload, st_bastore, st_laload, st_lastore, st_aaload, st_aastore, st_arraylength, st_iadd, st_isub, st_imul, st_iand, st_ior, st_ixor, st_ishl, st_ishr, st_idiv, st_irem, st_ineg, st_land, st_lor, st_lshl, st_i2l, st_l2i, st_i2b, st_i2s, st_i2c, st_lcmp, st_iinc, st_dupI, st_dupR, st_dup2, st_pop, st_goto, st_if_eq, st_icmp_eq, st_if_ne, st_icmp_ne, st_if_lt, st_icmp_lt, st_if_ge, st_icmp_ge, st_if_gt, st_icmp_gt, st_if_le, st_icmp_le, st_tsw, st_lsw, st_newarray, st_anewarray, st_new, st_invokevirtual, st_invokespecial, oin_ref, st_static, st_max, st_min, st_abs, st_copyi, st_copyl, st_ireturn, st_lreturn, st_areturn, st_return, rn_succ, inl_nil, inl_cons, rno_some, oi_some, ol_some, or_some, lk_cons, ins_nil, ins_cons, rm_nil, rm_int, rm_ref, rm_long, pop_0, pop_1, pop_2, pop_3, pop_4, pop_5, pop_6, la_nil, la_int, la_ref, la_long, cat_nil, cat_int, cat_ref, cat_long, call_succ, cont_some, cont_none, rcv_0, rcv_1, rcv_2, rcv_3, rcv_4, rcv_5, rcv_6, rcv_7, rcv_8, rcv_s, rf_some, ret_0, ret_10, ret_11, ret_ite, ite_0, sw_nil, sw_cons, ln_some, isk_some, al_some, ↓reduceIte, Nat.reduceAdd, Nat.reduceEqDiff, Nat.reduceLeDiff, Nat.reduceLT, Int32.reduceLT, Int32.reduceLE, Int32.reduceToNatClampNeg, Int32.reduceOfNat, Int32.reduceAdd, Int32.reduceSub, Int.reduceEq, Int.reduceNeg, Int.reduceLT, Int32.reduceOfInt, Int64.reduceOfInt, Bool.false_eq_true, true_and, and_true, eq_self, not_true_eq_false, not_false_eq_true, false_imp_iff, true_imp_iff, forall_const, or_true, true_or, ne_eq, Nat.zero_add, Nat.add_zero, Nat.le_refl, reduceCtorEq, Ft74, e118, l118, e119, l119, e120, l120, t118, and_self, g1, f1, f2, f3]
  exact h _ _ _ (b0_30 (by decide) q1)
theorem w74_t5 (g : ro 14 = some 30) (q : B0 Ua Ub 120 ro io I L R)
    (h : ∀ I L R, B0 Ua (pm_up Ub 5 (some 120)) 122 (ro) (io) I L R → pm_wp X (d + 3) 74 214 [(0, .ref 0), (1, .ref 31), (2, .int 6)] [] 121 3335 (SH.take 122) I L R Q) : pm_wp X (d + 3) 74 214 [(0, .ref 0), (1, .ref 31), (2, .int 5)] [] 119 3272 (SH.take 120) I L R Q := by
  have g1 : R 0 14 = some 30 := (congrFun q.2.1.2.2 14).trans g
  have e120 : (SH.take 120)[0]? = some (0, 7) := (sh_at (by decide)).trans rfl
  have l120 : (SH.take 120).length = 120 := sh_ln (by decide)
  have e121 : (SH.take 121)[0]? = some (0, 7) := (sh_at (by decide)).trans rfl
  have l121 : (SH.take 121).length = 121 := sh_ln (by decide)
  have e122 : (SH.take 122)[0]? = some (0, 7) := (sh_at (by decide)).trans rfl
  have l122 : (SH.take 122).length = 122 := sh_ln (by decide)
  have t120 : SH.take 120 ++ [(0, 6)] = SH.take 121 := sh_tk rfl
  have f1 : (SH.take 122)[30]? = some (10, 6) := (sh_at (by decide)).trans rfl
  have f2 : (SH.take 122)[120]? = some (0, 6) := (sh_at (by decide)).trans rfl
  have f3 : vp_in 5 6 := by unfold vp_in; decide
  refine pm_gos (n := 60) (stops := [214]) ?_
  simp only [st_iload_n, st_iload, st_lload_n, st_aload_n, st_aload, st_istore_n, st_istore, st_astore_n, st_astore, st_iconst, st_bipush, st_sipush, st_lconst, st_ldc, st_ldc_w, st_ldc2_w, st_getfield, st_putfieldI, st_putfieldR, st_getstatic, st_iaload, st_iastore, st_baload, st_bastore, st_laload, st_lastore, st_aaload, st_aastore, st_arraylength, st_iadd, st_isub, st_imul, st_iand, st_ior, st_ixor, st_ishl, st_ishr, st_idiv, st_irem, st_ineg, st_land, st_lor, st_lshl, st_i2l, st_l2i, st_i2b, st_i2s, st_i2c, st_lcmp, st_iinc, st_dupI, st_dupR, st_dup2, st_pop, st_goto, st_if_eq, st_icmp_eq, st_if_ne, st_icmp_ne, st_if_lt, st_icmp_lt, st_if_ge, st_icmp_ge, st_if_gt, st_icmp_gt, st_if_le, st_icmp_le, st_tsw, st_lsw, st_newarray, st_anewarray, st_new, st_invokevirtual, st_invokespecial, oin_ref, st_static, st_max, st_min, st_abs, st_copyi, st_copyl, st_ireturn, st_lreturn, st_areturn, st_return, rn_succ, inl_nil, inl_cons, rno_some, oi_some, ol_some, or_some, lk_cons, ins_nil, ins_cons, rm_nil, rm_int, rm_ref, rm_long, pop_0, pop_1, pop_2, pop_3, pop_4, pop_5, pop_6, la_nil, la_int, la_ref, la_long, cat_nil, cat_int, cat_ref, cat_long, call_succ, cont_some, cont_none, rcv_0, rcv_1, rcv_2, rcv_3, rcv_4, rcv_5, rcv_6, rcv_7, rcv_8, rcv_s, rf_some, ret_0, ret_10, ret_11, ret_ite, ite_0, sw_nil, sw_cons, ln_some, isk_some, al_some, ↓reduceIte, Nat.reduceAdd, Nat.reduceEqDiff, Nat.reduceLeDiff, Nat.reduceLT, Int32.reduceLT, Int32.reduceLE, Int32.reduceToNatClampNeg, Int32.reduceOfNat, Int32.reduceAdd, Int32.reduceSub, Int.reduceEq, Int.reduceNeg, Int.reduceLT, Int32.reduceOfInt, Int64.reduceOfInt, Bool.false_eq_true, true_and, and_true, eq_self, not_true_eq_false, not_false_eq_true, false_imp_iff, true_imp_iff, forall_const, or_true, true_or, ne_eq, Nat.zero_add, Nat.add_zero, Nat.le_refl, reduceCtorEq, Ft74, e120, l120, e121, l121, e122, l122, t120, and_self, g1, f1, f2, f3]
  refine ⟨rm_g (by decide) (by decide) (by decide) (by decide) (scl_r (by decide) (scl_r (by decide) (scl_i scl_n))) (scv_i (scv_r (by decide) scv_n)), by unfold pm_nf3; decide, Or.inr ⟨(scl_r (by decide) (scl_r (by decide) (scl_i scl_n))), (scv_r (by decide) (scv_i (scv_r (by decide) scv_n)))⟩, w_x69 (by decide) (by decide) (by decide) (show SH[120]? = some (0, 6) from rfl) (show SH[121]? = some (3, 60) from rfl) (b0_new q) (t_x0 (by decide)) rfl (Eq.symm yy_120) (ar_y (show SH[121]? = some (3, 60) from rfl) (by decide) (by decide) (by decide)).2 fun I1 L1 R1 c1 k1 => ?_⟩
  have q1 := b0_call (by decide) q c1 k1
  simp only [st_iload_n, st_iload, st_lload_n, st_aload_n, st_aload, st_istore_n, st_istore, st_astore_n, st_astore, st_iconst, st_bipush, st_sipush, st_lconst, st_ldc, st_ldc_w, st_ldc2_w, st_getfield, st_putfieldI, st_putfieldR, st_getstatic, st_iaload, st_iastore, st_baload, st_bastore, st_laload, st_lastore, st_aaload, st_aastore, st_arraylength, st_iadd, st_isub, st_imul, st_iand, st_ior, st_ixor, st_ishl, st_ishr, st_idiv, st_irem, st_ineg, st_land, st_lor, st_lshl, st_i2l, st_l2i, st_i2b, st_i2s, st_i2c, st_lcmp, st_iinc, st_dupI, st_dupR, st_dup2, st_pop, st_goto, st_if_eq, st_icmp_eq, st_if_ne, st_icmp_ne, st_if_lt, st_icmp_lt, st_if_ge, st_icmp_ge, st_if_gt, st_icmp_gt, st_if_le, st_icmp_le, st_tsw, st_lsw, st_newarray, st_anewarray, st_new, st_invokevirtual, st_invokespecial, oin_ref, st_static, st_max, st_min, st_abs, st_copyi, st_copyl, st_ireturn, st_lreturn, st_areturn, st_return, rn_succ, inl_nil, inl_cons, rno_some, oi_some, ol_some, or_some, lk_cons, ins_nil, ins_cons, rm_nil, rm_int, rm_ref, rm_long, pop_0, pop_1, pop_2, pop_3, pop_4, pop_5, pop_6, la_nil, la_int, la_ref, la_long, cat_nil, cat_int, cat_ref, cat_long, call_succ, cont_some, cont_none, rcv_0, rcv_1, rcv_2, rcv_3, rcv_4, rcv_5, rcv_6, rcv_7, rcv_8, rcv_s, rf_some, ret_0, ret_10, ret_11, ret_ite, ite_0, sw_nil, sw_cons, ln_some, isk_some, al_some, ↓reduceIte, Nat.reduceAdd, Nat.reduceEqDiff, Nat.reduceLeDiff, Nat.reduceLT, Int32.reduceLT, Int32.reduceLE, Int32.reduceToNatClampNeg, Int32.reduceOfNat, Int32.reduceAdd, Int32.reduceSub, Int.reduceEq, Int.reduceNeg, Int.reduceLT, Int32.reduceOfInt, Int64.reduceOfInt, Bool.false_eq_true, true_and, and_true, eq_self, not_true_eq_false, not_false_eq_true, false_imp_iff, true_imp_iff, forall_const, or_true, true_or, ne_eq, Nat.zero_add, Nat.add_zero, Nat.le_refl, reduceCtorEq, Ft74, e120, l120, e121, l121, e122, l122, t120, and_self, g1, f1, f2, f3]
  exact h _ _ _ (b0_30 (by decide) q1)
theorem yy_0 : pm_up (pm_up (pm_up (pm_up (pm_up (pm_up (pm_up (pm_up (pm_up (pm_up (pm_up (pm_up (pm_up (fun _ => none) 0 (some 1)) 2 (some 2)) 4 (some 4)) 5 (some 8)) 6 (some 12)) 9 (some 16)) 10 (some 20)) 11 (some 24)) 13 (some 28)) 14 (some 30)) 3 (some 37)) 8 (some 49)) 12 (some 61) = RR K0 0 := by
  funext k
  match k with
  | 0 => rfl
  | 1 => rfl
  | 2 => rfl
  | 3 => rfl
  | 4 => rfl
  | 5 => rfl
  | 6 => rfl
  | 7 => rfl
  | 8 => rfl
  | 9 => rfl
  | 10 => rfl
  | 11 => rfl
  | 12 => rfl
  | 13 => rfl
  | 14 => rfl
  | 15 => rfl
  | n + 16 =>
    unfold RR
    rw [if_neg (by omega), show RRl.getD 0 [] = [(0, 1), (2, 2), (3, 37), (4, 4), (5, 8), (6, 12), (8, 49), (9, 16), (10, 20), (11, 24), (12, 61), (13, 28), (14, 30)] from rfl]
    simp [pm_up, List.lookup]
/-- the class object -/
theorem w_x74 (z0 : I 0 = (fun _ => 0) ∧ L 0 = (fun _ => 0) ∧ ∀ a, R a = fun _ => none)
    (h : ∀ I L R, (∀ a, a < 122 → I a = I0 a ∧ L a = (fun _ => 0) ∧ R a = RR K0 a) → (∀ a, 122 ≤ a → R a = fun _ => none) → Q none (SH.take 122) I L R) : pm_wp X (d + 3) 74 0 [(0, .ref 0)] [] 0 0 (SH.take 1) I L R Q := by
  have q : B0 (fun _ => none) (fun _ => none) 1 (fun _ => none) (fun _ => 0) I L R := ⟨⟨fun a h1 h2 h3 h4 => absurd h4 (by omega), fun a _ => z0.2.2 a⟩, ⟨z0.1, z0.2.1, z0.2.2 0⟩, fun a h1 h2 => absurd (by omega) h2⟩
  refine w74_a q fun I L R q => ?_
  refine w74_0 q fun I L R q => ?_
  refine w74_1 q fun I L R q => ?_
  refine w74_2 q fun I L R q => ?_
  refine w74_3 q fun I L R q => ?_
  refine w74_4 q fun I L R q => ?_
  refine w74_5 q fun I L R q => ?_
  refine w74_6 q fun I L R q => ?_
  refine w74_7 q fun I L R q => ?_
  refine w74_b q fun I L R q => ?_
  refine w74_c q fun I L R q => ?_
  refine w74_d q fun I L R q => ?_
  refine w74_e q fun I L R q => ?_
  refine w74_f rfl q fun I L R q => ?_
  refine pm_gos (n := 60) (stops := [187]) ?_
  simp only [st_iload_n, st_iload, st_lload_n, st_aload_n, st_aload, st_istore_n, st_istore, st_astore_n, st_astore, st_iconst, st_bipush, st_sipush, st_lconst, st_ldc, st_ldc_w, st_ldc2_w, st_getfield, st_putfieldI, st_putfieldR, st_getstatic, st_iaload, st_iastore, st_baload, st_bastore, st_laload, st_lastore, st_aaload, st_aastore, st_arraylength, st_iadd, st_isub, st_imul, st_iand, st_ior, st_ixor, st_ishl, st_ishr, st_idiv, st_irem, st_ineg, st_land, st_lor, st_lshl, st_i2l, st_l2i, st_i2b, st_i2s, st_i2c, st_lcmp, st_iinc, st_dupI, st_dupR, st_dup2, st_pop, st_goto, st_if_eq, st_icmp_eq, st_if_ne, st_icmp_ne, st_if_lt, st_icmp_lt, st_if_ge, st_icmp_ge, st_if_gt, st_icmp_gt, st_if_le, st_icmp_le, st_tsw, st_lsw, st_newarray, st_anewarray, st_new, st_invokevirtual, st_invokespecial, oin_ref, st_static, st_max, st_min, st_abs, st_copyi, st_copyl, st_ireturn, st_lreturn, st_areturn, st_return, rn_succ, inl_nil, inl_cons, rno_some, oi_some, ol_some, or_some, lk_cons, ins_nil, ins_cons, rm_nil, rm_int, rm_ref, rm_long, pop_0, pop_1, pop_2, pop_3, pop_4, pop_5, pop_6, la_nil, la_int, la_ref, la_long, cat_nil, cat_int, cat_ref, cat_long, call_succ, cont_some, cont_none, rcv_0, rcv_1, rcv_2, rcv_3, rcv_4, rcv_5, rcv_6, rcv_7, rcv_8, rcv_s, rf_some, ret_0, ret_10, ret_11, ret_ite, ite_0, sw_nil, sw_cons, ln_some, isk_some, al_some, ↓reduceIte, Nat.reduceAdd, Nat.reduceEqDiff, Nat.reduceLeDiff, Nat.reduceLT, Int32.reduceLT, Int32.reduceLE, Int32.reduceToNatClampNeg, Int32.reduceOfNat, Int32.reduceAdd, Int32.reduceSub, Int.reduceEq, Int.reduceNeg, Int.reduceLT, Int32.reduceOfInt, Int64.reduceOfInt, Bool.false_eq_true, true_and, and_true, eq_self, not_true_eq_false, not_false_eq_true, false_imp_iff, true_imp_iff, forall_const, or_true, true_or, ne_eq, Nat.zero_add, Nat.add_zero, Nat.le_refl, reduceCtorEq, Ft74]
  refine w74_k0 rfl q fun I L R q => ?_
  refine w74_k1 rfl q fun I L R q => ?_
  refine w74_k2 rfl q fun I L R q => ?_
  refine w74_k3 rfl q fun I L R q => ?_
  refine w74_k4 rfl q fun I L R q => ?_
  refine w74_k5 rfl q fun I L R q => ?_
  refine pm_gos (n := 60) (stops := [214]) ?_
  simp only [st_iload_n, st_iload, st_lload_n, st_aload_n, st_aload, st_istore_n, st_istore, st_astore_n, st_astore, st_iconst, st_bipush, st_sipush, st_lconst, st_ldc, st_ldc_w, st_ldc2_w, st_getfield, st_putfieldI, st_putfieldR, st_getstatic, st_iaload, st_iastore, st_baload, st_bastore, st_laload, st_lastore, st_aaload, st_aastore, st_arraylength, st_iadd, st_isub, st_imul, st_iand, st_ior, st_ixor, st_ishl, st_ishr, st_idiv, st_irem, st_ineg, st_land, st_lor, st_lshl, st_i2l, st_l2i, st_i2b, st_i2s, st_i2c, st_lcmp, st_iinc, st_dupI, st_dupR, st_dup2, st_pop, st_goto, st_if_eq, st_icmp_eq, st_if_ne, st_icmp_ne, st_if_lt, st_icmp_lt, st_if_ge, st_icmp_ge, st_if_gt, st_icmp_gt, st_if_le, st_icmp_le, st_tsw, st_lsw, st_newarray, st_anewarray, st_new, st_invokevirtual, st_invokespecial, oin_ref, st_static, st_max, st_min, st_abs, st_copyi, st_copyl, st_ireturn, st_lreturn, st_areturn, st_return, rn_succ, inl_nil, inl_cons, rno_some, oi_some, ol_some, or_some, lk_cons, ins_nil, ins_cons, rm_nil, rm_int, rm_ref, rm_long, pop_0, pop_1, pop_2, pop_3, pop_4, pop_5, pop_6, la_nil, la_int, la_ref, la_long, cat_nil, cat_int, cat_ref, cat_long, call_succ, cont_some, cont_none, rcv_0, rcv_1, rcv_2, rcv_3, rcv_4, rcv_5, rcv_6, rcv_7, rcv_8, rcv_s, rf_some, ret_0, ret_10, ret_11, ret_ite, ite_0, sw_nil, sw_cons, ln_some, isk_some, al_some, ↓reduceIte, Nat.reduceAdd, Nat.reduceEqDiff, Nat.reduceLeDiff, Nat.reduceLT, Int32.reduceLT, Int32.reduceLE, Int32.reduceToNatClampNeg, Int32.reduceOfNat, Int32.reduceAdd, Int32.reduceSub, Int.reduceEq, Int.reduceNeg, Int.reduceLT, Int32.reduceOfInt, Int64.reduceOfInt, Bool.false_eq_true, true_and, and_true, eq_self, not_true_eq_false, not_false_eq_true, false_imp_iff, true_imp_iff, forall_const, or_true, true_or, ne_eq, Nat.zero_add, Nat.add_zero, Nat.le_refl, reduceCtorEq, Ft74]
  refine w74_t0 rfl q fun I L R q => ?_
  refine w74_t1 rfl q fun I L R q => ?_
  refine w74_t2 rfl q fun I L R q => ?_
  refine w74_t3 rfl q fun I L R q => ?_
  refine w74_t4 rfl q fun I L R q => ?_
  refine w74_t5 rfl q fun I L R q => ?_
  refine pm_gos (n := 60) (stops := []) ?_
  simp only [st_iload_n, st_iload, st_lload_n, st_aload_n, st_aload, st_istore_n, st_istore, st_astore_n, st_astore, st_iconst, st_bipush, st_sipush, st_lconst, st_ldc, st_ldc_w, st_ldc2_w, st_getfield, st_putfieldI, st_putfieldR, st_getstatic, st_iaload, st_iastore, st_baload, st_bastore, st_laload, st_lastore, st_aaload, st_aastore, st_arraylength, st_iadd, st_isub, st_imul, st_iand, st_ior, st_ixor, st_ishl, st_ishr, st_idiv, st_irem, st_ineg, st_land, st_lor, st_lshl, st_i2l, st_l2i, st_i2b, st_i2s, st_i2c, st_lcmp, st_iinc, st_dupI, st_dupR, st_dup2, st_pop, st_goto, st_if_eq, st_icmp_eq, st_if_ne, st_icmp_ne, st_if_lt, st_icmp_lt, st_if_ge, st_icmp_ge, st_if_gt, st_icmp_gt, st_if_le, st_icmp_le, st_tsw, st_lsw, st_newarray, st_anewarray, st_new, st_invokevirtual, st_invokespecial, oin_ref, st_static, st_max, st_min, st_abs, st_copyi, st_copyl, st_ireturn, st_lreturn, st_areturn, st_return, rn_succ, inl_nil, inl_cons, rno_some, oi_some, ol_some, or_some, lk_cons, ins_nil, ins_cons, rm_nil, rm_int, rm_ref, rm_long, pop_0, pop_1, pop_2, pop_3, pop_4, pop_5, pop_6, la_nil, la_int, la_ref, la_long, cat_nil, cat_int, cat_ref, cat_long, call_succ, cont_some, cont_none, rcv_0, rcv_1, rcv_2, rcv_3, rcv_4, rcv_5, rcv_6, rcv_7, rcv_8, rcv_s, rf_some, ret_0, ret_10, ret_11, ret_ite, ite_0, sw_nil, sw_cons, ln_some, isk_some, al_some, ↓reduceIte, Nat.reduceAdd, Nat.reduceEqDiff, Nat.reduceLeDiff, Nat.reduceLT, Int32.reduceLT, Int32.reduceLE, Int32.reduceToNatClampNeg, Int32.reduceOfNat, Int32.reduceAdd, Int32.reduceSub, Int.reduceEq, Int.reduceNeg, Int.reduceLT, Int32.reduceOfInt, Int64.reduceOfInt, Bool.false_eq_true, true_and, and_true, eq_self, not_true_eq_false, not_false_eq_true, false_imp_iff, true_imp_iff, forall_const, or_true, true_or, ne_eq, Nat.zero_add, Nat.add_zero, Nat.le_refl, reduceCtorEq, Ft74]
  obtain ⟨⟨c1, c2⟩, ⟨c3, c4, c5⟩, -⟩ := q
  refine h _ _ _ (fun a ha => ?_) c2
  by_cases z : a = 0
  · subst z
    exact ⟨c3.trans (by rw [up_0, up_0]; rfl), c4, c5.trans yy_0⟩
  · obtain ⟨g1, g2, g3⟩ := c1 a (by omega) z z ha
    refine ⟨g1, g2, g3.trans ?_⟩
    by_cases z1 : a = 1
    · subst z1
      exact yy_1
    · by_cases z2 : a = 30
      · subst z2
        exact yy_30
      · simp [TT, pm_up, z1, z2]
end MAKE5
