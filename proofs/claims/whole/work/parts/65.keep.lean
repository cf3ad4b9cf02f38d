/-! BOTH SIDES: each piece of the relation where its cells stay -/
section KEEP
variable {n kc q : Nat} {I I' : pm_I} {K K' : Nat → Nat} {L L' : pm_L}
theorem c_pl (p : PLR n (tw I 37) (mw I)) (h : ∀ a, ((37 ≤ a ∧ a ≤ 43) ∨ (123 ≤ a ∧ a ≤ 128)) → I' a = I a) (hj : ∀ j, j ≤ 3 → I' 122 j = I 122 j) : PLR n (tw I' 37) (mw I') := by
  have et : VQ (tw I' 37) (tw I 37) := ⟨fun j _ => by show I' 37 j = _; rw [h 37 (by omega)], fun f j _ hf _ => by show I' (37 + f) j = _; rw [h (37 + f) (by omega)], fun j _ => by show I' 43 j = _; rw [h 43 (by omega)]⟩
  have em : VQ (mw I') (mw I) := by
    refine ⟨fun j hj' => ?_, fun f j h1 h2 h3 => ?_, fun j h1 => ?_⟩
    · rcases hj' with rfl | rfl | rfl | rfl
      · exact hj 0 (by omega)
      · exact hj 3 (by omega)
      · exact hj 1 (by omega)
      · exact hj 2 (by omega)
    · obtain ⟨g, rfl⟩ : ∃ g, f = g + 1 := ⟨f - 1, by omega⟩
      show I' (123 + g) j = I (123 + g) j
      rw [h (123 + g) (by omega)]
    · show I' 128 j = I 128 j
      rw [h 128 (by omega)]
  have := plr_vq em p
  exact ⟨(et.1 0 (by omega)).trans this.1, this.2.1, vq_tr et this.2.2.1, this.2.2.2⟩
theorem c_ki (k : KIR kc I I) (h0 : I' 0 1 = I 0 1) (h1 : I' 122 10 = I 122 10) (h : ∀ a, ((31 ≤ a ∧ a ≤ 36) ∨ (74 ≤ a ∧ a ≤ 109) ∨ (130 ≤ a ∧ a ≤ 135)) → I' a = I a) : KIR kc I' I' := by
  refine ⟨h0.trans k.1, h1.trans k.2.1, k.2.2.1, ck_cg (fun f hf => h _ (by omega)) k.2.2.2.1, fun f hf => ?_⟩
  have := k.2.2.1
  obtain ⟨ac, a1, a2, a3, a4, a5⟩ := k.2.2.2.2 f hf
  exact ⟨ac, a1, a2, ck_cg (fun x hx => h _ (by omega)) a3, fun i x hx => mch_fr (fun a b c => by rw [h a (by omega)]) (fun j _ => by rw [h 135 (by omega)]) (Nat.le_refl _) (a4 i x hx), by rw [h 130 (by omega)]; exact a5⟩
theorem c_tx (t : TXR I I) (h0 : I' 2 0 = I 2 0) (h1 : I' 3 = I 3) (h2 : I' 122 12 = I 122 12) (h3 : I' 129 = I 129) : TXR I' I' := by unfold TXR; rw [h0, h1, h2, h3]; exact t
theorem c_im (m : IMR kc I I q) (h0 : I' 0 7 = I 0 7) (h : ∀ a, ((16 ≤ a ∧ a ≤ 27) ∨ (49 ≤ a ∧ a ≤ 55) ∨ (152 ≤ a ∧ a ≤ 164)) → I' a = I a) (hj : ∀ j, 47 ≤ j → j ≤ 55 → I' 122 j = I 122 j) : IMR kc I' I' q := by
  unfold IMR
  rw [h0, hj 47 (by omega) (by omega), hj 48 (by omega) (by omega), hj 53 (by omega) (by omega), hj 54 (by omega) (by omega), hj 55 (by omega) (by omega), h 16 (by omega), h 17 (by omega), h 18 (by omega), h 19 (by omega), h 20 (by omega), h 21 (by omega), h 22 (by omega), h 24 (by omega), h 25 (by omega), h 26 (by omega), h 158 (by omega), h 159 (by omega), h 160 (by omega), h 161 (by omega), h 162 (by omega), h 163 (by omega), h 164 (by omega)]
  rcases m with z | ⟨z1, z2, z3, n', p, z4⟩
  · exact Or.inl z
  · refine Or.inr ⟨z1, z2, z3, n', ?_, z4⟩
    have et : VQ (tw I' 49) (tw I 49) := ⟨fun j _ => by show I' 49 j = _; rw [h 49 (by omega)], fun f j _ hf _ => by show I' (49 + f) j = _; rw [h (49 + f) (by omega)], fun j _ => by show I' 55 j = _; rw [h 55 (by omega)]⟩
    have em : VQ (iw I') (iw I) := by
      refine ⟨fun j hj' => ?_, fun f j h1 h2 h3 => ?_, fun j h1 => ?_⟩
      · rcases hj' with rfl | rfl | rfl | rfl
        · exact hj 49 (by omega) (by omega)
        · exact hj 52 (by omega) (by omega)
        · exact hj 50 (by omega) (by omega)
        · exact hj 51 (by omega) (by omega)
      · obtain ⟨g, rfl⟩ : ∃ g, f = g + 1 := ⟨f - 1, by omega⟩
        show I' (152 + g) j = I (152 + g) j
        rw [h (152 + g) (by omega)]
      · show I' 157 j = I 157 j
        rw [h 157 (by omega)]
    have := plr_vq em p
    exact ⟨(et.1 0 (by omega)).trans this.1, this.2.1, vq_tr et this.2.2.1, this.2.2.2⟩
theorem c_ac (a : ACR I I) (h0 : I' 28 1 = I 28 1) (h1 : I' 29 = I 29) (h2 : I' 122 69 = I 122 69) (h3 : I' 165 = I 165) : ACR I' I' := by unfold ACR TRC TRM; rw [h0, h1, h2, h3]; exact a
theorem c_tp (t : TPR I L I L) (h : ∀ a, ((110 ≤ a ∧ a ≤ 121) ∨ (166 ≤ a ∧ a ≤ 167)) → I' a = I a) : TPR I' L I' L := by
  unfold TPR MTp
  rw [h 166 (by omega), h 167 (by omega)]
  refine ⟨t.1, fun i hi => ?_⟩
  show I' (110 + 2 * i) 0 = _ ∧ I' (110 + 2 * i) 1 = _ ∧ _
  rw [h (110 + 2 * i) (by omega)]
  exact t.2 i hi
theorem c_lt (t : LTR I) (h : I' 137 = I 137) : LTR I' := by unfold LTR; rw [h]; exact t
theorem snr_mo {n n' : Nat} {z z' : Int32} {F S T F' S' T' : Nat → Int32} (h : n ≤ n') (s : SNR n z F S T z' F' S' T') : SNR n' z F S T z' F' S' T' := by
  obtain ⟨sz, a, b, c, g⟩ := s
  refine ⟨sz, a, b, c, fun j hj => ?_⟩
  obtain ⟨g1, g2, g3, ⟨p, hp, e⟩, g5⟩ := g j hj
  exact ⟨g1, g2, g3, ⟨p, by omega, e⟩, g5⟩
theorem bkr_mo {n n' : Nat} {z z' : Int32} {F S F' S' : Nat → Int32} (h : n ≤ n') (s : BKR n z F S z' F' S') : BKR n' z F S z' F' S' := by
  obtain ⟨sz, a, b, c, g⟩ := s
  refine ⟨sz, a, b, c, fun j hj => ?_⟩
  obtain ⟨g1, g2, p, hp, e⟩ := g j hj
  exact ⟨g1, g2, p, by omega, e⟩
/-- only the players change -/
theorem rel_pl {n' : Nat} (r : REL n kc I K L I L) (p : PLR n' (tw I' 37) (mw I')) (hn : n ≤ n') (hK : KE K' K) (E : ∀ a, (a < 37 ∨ (48 < a ∧ a < 62) ∨ (73 < a ∧ a < 122) ∨ (128 < a ∧ a < 138) ∨ (144 < a ∧ a < 169)) → I' a = I a) (ej : ∀ j, (j = 10 ∨ j = 11 ∨ j = 12 ∨ j = 37 ∨ j = 41 ∨ j = 42 ∨ (47 ≤ j ∧ j ≤ 55) ∨ j = 69) → I' 122 j = I 122 j) : REL n' kc I' K' L I' L := by
  obtain ⟨-, ki, cu, tx, sn, af, bk, im, ac, tp, lt⟩ := r
  refine ⟨p, c_ki ki (by rw [E 0 (by omega)]) (ej 10 (by omega)) (fun a h => E a (by omega)), ?_, c_tx tx (by rw [E 2 (by omega)]) (E 3 (by omega)) (ej 12 (by omega)) (E 129 (by omega)), ?_, ?_, ?_, ?_, c_ac ac (by rw [E 28 (by omega)]) (E 29 (by omega)) (ej 69 (by omega)) (E 165 (by omega)), c_tp tp (fun a h => E a (by omega)), c_lt lt (E 137 (by omega))⟩
  · rw [ej 11 (by omega), hK 37 (by omega)]; exact cu
  · rw [E 4 (by omega), E 5 (by omega), E 6 (by omega), E 7 (by omega), E 145 (by omega), E 146 (by omega), E 147 (by omega), ej 37 (by omega)]; exact snr_mo hn sn
  · rw [E 8 (by omega), E 9 (by omega), E 10 (by omega), E 148 (by omega), E 149 (by omega), ej 41 (by omega)]; exact af
  · rw [E 12 (by omega), E 13 (by omega), E 14 (by omega), E 150 (by omega), E 151 (by omega), ej 42 (by omega)]; exact bkr_mo hn bk
  · rw [hK 49 (by omega)]; exact c_im im (by rw [E 0 (by omega)]) (fun a h => E a (by omega)) (fun j h1 h2 => ej j (by omega))
/-- the players stay, and all but what is told by hand -/
theorem rel_hd (r : REL n kc I K L I L) (sn : SNR n (I' 4 0) (I' 5) (I' 6) (I' 7) (I' 122 37) (I' 145) (I' 146) (I' 147)) (af : AFR (I' 8 0) (I' 9) (I' 10) (I' 122 41) (I' 148) (I' 149)) (bk : BKR n (I' 12 0) (I' 13) (I' 14) (I' 122 42) (I' 150) (I' 151)) (tx : TXR I' I') (ac : ACR I' I')
    (E : ∀ a, ((a < 2 ∨ (15 < a ∧ a < 28) ∨ (29 < a ∧ a < 122) ∨ (122 < a ∧ a < 129) ∨ (129 < a ∧ a < 145) ∨ (151 < a ∧ a < 165) ∨ (165 < a))) → I' a = I a) (ej : ∀ j, (j ≤ 3 ∨ j = 10 ∨ j = 11 ∨ (47 ≤ j ∧ j ≤ 55)) → I' 122 j = I 122 j) : REL n kc I' K L I' L := by
  obtain ⟨pl, ki, cu, -, -, -, -, im, -, tp, lt⟩ := r
  refine ⟨c_pl pl (fun a h => E a (by omega)) (fun j h => ej j (by omega)), c_ki ki (by rw [E 0 (by omega)]) (ej 10 (by omega)) (fun a h => E a (by omega)), ?_, tx, sn, af, bk, c_im im (by rw [E 0 (by omega)]) (fun a h => E a (by omega)) (fun j h1 h2 => ej j (by omega)), ac, c_tp tp (fun a h => E a (by omega)), c_lt lt (E 137 (by omega))⟩
  rw [ej 11 (by omega)]; exact cu
end KEEP
