/-! BOTH SIDES: the image, and going back to it -/
section IMG
variable {X : pm_X} {d n kc : Nat} {I I' : pm_I} {K : Nat → Nat} {L L' : pm_L}
theorem plr_2 {w v w' v' : Vw} (p : PLR n w v) (hw : VQ w' w) (hv : VQ v' v) : PLR n w' v' := by
  have := plr_vq hv p
  exact ⟨(hw.1 0 (by omega)).trans this.1, this.2.1, vq_tr hw this.2.2.1, this.2.2.2⟩
theorem snr_cp {z z' y y' : Int32} {F S T F' S' T' G U V G' U' V' : Nat → Int32} {sz : Nat} (a1 : sz ≤ 5) (a4 : ∀ j, j < sz → F j = F' j ∧ S j = S' j ∧ T j = T' j ∧ (∃ p, p < n ∧ F' j = nI p) ∧ ∃ t, t ≤ 8 ∧ T' j = nI t) (e : y = nI sz) (e' : y' = nI sz)
    (h : ∀ j, j < sz → G j = F j ∧ U j = S j ∧ V j = T j) (h' : ∀ j, j < 5 → G' j = F' j ∧ U' j = S' j ∧ V' j = T' j) : SNR n y G U V y' G' U' V' := by
  refine ⟨sz, a1, e, e', fun j hj => ?_⟩
  obtain ⟨h1, h2, h3⟩ := h j hj
  obtain ⟨h4, h5, h6⟩ := h' j (by omega)
  rw [h1, h2, h3, h4, h5, h6]
  exact a4 j hj
theorem afr_cp {y y' : Int32} {F S F' S' G U G' U' : Nat → Int32} {sz : Nat} (a1 : sz ≤ 10) (a4 : ∀ j, j < sz → F j = F' j ∧ (¬ F' j = 0 → S j = S' j)) (e : y = nI sz) (e' : y' = nI sz)
    (h : ∀ j, j < sz → G j = F j ∧ U j = S j) (h' : ∀ j, j < 10 → G' j = F' j ∧ U' j = S' j) : AFR y G U y' G' U' := by
  refine ⟨sz, a1, e, e', fun j hj => ?_⟩
  obtain ⟨h1, h2⟩ := h j hj
  obtain ⟨h4, h5⟩ := h' j (by omega)
  rw [h1, h2, h4, h5]
  exact a4 j hj
theorem bkr_cp {y y' : Int32} {F S F' S' G U G' U' : Nat → Int32} {sz : Nat} (a1 : sz ≤ 8) (a4 : ∀ j, j < sz → F j = F' j ∧ S j = S' j ∧ ∃ p, p < n ∧ F' j = nI p) (e : y = nI sz) (e' : y' = nI sz)
    (h : ∀ j, j < sz → G j = F j ∧ U j = S j) (h' : ∀ j, j < 8 → G' j = F' j ∧ U' j = S' j) : BKR n y G U y' G' U' := by
  refine ⟨sz, a1, e, e', fun j hj => ?_⟩
  obtain ⟨h1, h2⟩ := h j hj
  obtain ⟨h4, h5⟩ := h' j (by omega)
  rw [h1, h2, h4, h5]
  exact a4 j hj
theorem q_image : PCi X (d + 24) 102 [(0, .ref 0)] 200 [(0, .ref 122)] := by
  intro n kc I K L r Q h
  obtain ⟨q, ac, ci, mk⟩ := rel_k r
  obtain ⟨pl, ki, cu, tx, sn, af, bk, im, act, tp, lt⟩ := id r
  obtain ⟨s1, a1, a2, a3, a4⟩ := id sn
  obtain ⟨s2, b1, b2, b3, b4⟩ := id af
  obtain ⟨s3, c1, c2, c3, c4⟩ := id bk
  refine w_image ci a2 a1 b2 b1 c2 c1 (fun I1 v1 d1 d2 e1 e2 f1 f2 g1 g2 => h _ _ _ _ (fun Q2 h2 => ?_))
  have hm : ∀ a, 55 < a → I1 a = I a := fun a ha => g2 a (by omega) (by omega) (by omega)
  refine m_image (n := n) (by rw [hm 122 (by omega)]; exact pl.2.1.2.1) (fun I2 i47 i48 i49 i50 i51 i52 i53 i54 i55 iz r1 r2 r3 r4 r5 rz => ?_)
  rw [hm 122 (by omega)] at i48 i49 i50 i51 i52 i53 i54 i55 iz
  have cl : ∀ a, a < 122 → I2 a = I1 a := fun a ha => rz a (by omega) (by omega)
  have E : ∀ a, ((0 < a ∧ a < 16) ∨ (27 < a ∧ a < 49) ∨ (55 < a ∧ a < 122) ∨ (122 < a ∧ a < 152) ∨ 164 < a) → I2 a = I a := fun a ha => (rz a (by omega) (by omega)).trans (g2 a (by omega) (by omega) (by omega))
  have e01 : I2 0 1 = I 0 1 := by rw [cl 0 (by omega), g1]; rfl
  refine h2 n kc _ _ L ⟨c_pl pl (fun a ha => E a (by omega)) (fun j hj => iz j (by omega)), c_ki ki e01 (iz 10 (by omega)) (fun a ha => E a (by omega)), ?_, c_tx tx (by rw [E 2 (by omega)]) (E 3 (by omega)) (iz 12 (by omega)) (E 129 (by omega)), k_sn sn (fun a ha => E a (by omega)) (iz 37 (by omega)), k_af af (fun a ha => E a (by omega)) (iz 41 (by omega)), k_bk bk (fun a ha => E a (by omega)) (iz 42 (by omega)), Or.inr ⟨?_, i47, ?_, n, ?_, ?_, ?_, ?_⟩, c_ac act (by rw [E 28 (by omega)]) (E 29 (by omega)) (iz 69 (by omega)) (E 165 (by omega)), c_tp tp (fun a ha => E a (by omega)), c_lt lt (E 137 (by omega))⟩
  · show CURR kc (K 37) (I2 122 11)
    rw [iz 11 (by omega)]; exact cu
  · rw [cl 0 (by omega), g1]; rfl
  · show CURR kc (K 37) (I2 122 48)
    rw [i48]; exact cu
  · refine plr_2 pl (vq_tr ⟨fun j _ => ?_, fun f j _ hf _ => ?_, fun j _ => ?_⟩ v1) ⟨fun j hj => ?_, fun f j h1 h2 h3 => ?_, fun j h1 => ?_⟩
    · show I2 49 j = _; rw [cl 49 (by omega)]
    · show I2 (49 + f) j = _; rw [cl (49 + f) (by omega)]
    · show I2 55 j = _; rw [cl 55 (by omega)]
    · rcases hj with rfl | rfl | rfl | rfl
      · exact i49
      · exact i52
      · exact i50
      · exact i51
    · have := r1 j h3
      rw [hm 123 (by omega), hm 124 (by omega), hm 125 (by omega), hm 126 (by omega), hm 127 (by omega)] at this
      obtain rfl | rfl | rfl | rfl | rfl : f = 1 ∨ f = 2 ∨ f = 3 ∨ f = 4 ∨ f = 5 := by omega
      · exact this.1
      · exact this.2.1
      · exact this.2.2.1
      · exact this.2.2.2.1
      · exact this.2.2.2.2
    · have := r2 j h1
      rw [hm 128 (by omega)] at this
      exact this
  · rw [hm 145 (by omega), hm 146 (by omega), hm 147 (by omega)] at r3
    rw [cl 16 (by omega), cl 17 (by omega), cl 18 (by omega), cl 19 (by omega)]
    exact snr_cp (z := 0) (z' := 0) a1 a4 d1 (i53.trans a3) (fun j hj => ⟨d2 1 j (by omega) (by omega) hj, d2 2 j (by omega) (by omega) hj, d2 3 j (by omega) (by omega) hj⟩) r3
  · rw [hm 148 (by omega), hm 149 (by omega)] at r4
    rw [cl 20 (by omega), cl 21 (by omega), cl 22 (by omega)]
    exact afr_cp b1 b4 e1 (i54.trans b3) (fun j hj => ⟨e2 1 j (by omega) (by omega) hj, e2 2 j (by omega) (by omega) hj⟩) r4
  · rw [hm 150 (by omega), hm 151 (by omega)] at r5
    rw [cl 24 (by omega), cl 25 (by omega), cl 26 (by omega)]
    exact bkr_cp c1 c4 f1 (i55.trans c3) (fun j hj => ⟨f2 1 j (by omega) (by omega) hj, f2 2 j (by omega) (by omega) hj⟩) r5
theorem cu_lt {q : Nat} {c : Int32} (h : CURR kc q c) (hk : kc ≤ 6) : q < 170 := by
  rcases h with ⟨a, -⟩ | ⟨f, hf, a, -⟩ <;> omega
theorem q_undo : PCi X (d + 24) 103 [(0, .ref 0)] 201 [(0, .ref 122)] := by
  intro n kc I K L r Q h
  obtain ⟨pl, ki, cu, tx, sn, af, bk, im, act, tp, lt⟩ := id r
  rcases id im with ⟨x0, x1⟩ | ⟨x0, x1, x2, n', p, s, a, b⟩
  · refine w_undo (s1 := 0) (s2 := 0) (s3 := 0) (n' := 0) (fun _ => h _ _ _ _ (fun Q2 h2 => ?_)) (fun z => absurd x0 z) (fun z => absurd x0 z) (fun z => absurd x0 z)
    exact m_undo (n := 0) (fun _ => h2 _ _ _ _ _ r) (fun z => absurd x1 z) (fun z => absurd x1 z)
  · obtain ⟨s1, a1, a2, a3, a4⟩ := id s
    obtain ⟨s2, b1, b2, b3, b4⟩ := id a
    obtain ⟨s3, c1, c2, c3, c4⟩ := id b
    have ne : ¬ I 0 7 = 0 := by rw [x0]; decide
    refine w_undo (s1 := s1) (s2 := s2) (s3 := s3) (n' := n') (fun z => absurd z ne) (fun _ => ⟨cu_lt x2 ki.2.2.1, p.1⟩) (fun _ => ⟨a2, a1, b2, b1, c2, c1⟩) (fun _ I1 v1 d1 d2 e1 e2 f1 f2 g2 => h _ _ _ _ (fun Q2 h2 => ?_))
    have hm : ∀ a, 43 < a → I1 a = I a := fun a ha => g2 a (by omega) (by omega)
    have ne' : ¬ I1 122 47 = 0 := by rw [hm 122 (by omega), x1]; decide
    refine m_undo (n := n') (fun z => absurd z ne') (fun _ => by rw [hm 122 (by omega)]; exact p.2.1.2.1) (fun _ I2 i11 i0 i1 i2 i3 i37 i41 i42 iz r1 r2 r3 r4 r5 rz => ?_)
    rw [hm 122 (by omega)] at i11 i0 i1 i2 i3 i37 i41 i42 iz
    have cl : ∀ a, a < 122 → I2 a = I1 a := fun a ha => rz a (by omega) (by omega) (by omega)
    have E : ∀ a, (a < 4 ∨ (15 < a ∧ a < 37) ∨ (43 < a ∧ a < 122) ∨ (128 < a ∧ a < 145) ∨ 151 < a) → I2 a = I a := fun a ha => (rz a (by omega) (by omega) (by omega)).trans (g2 a (by omega) (by omega))
    have ej : ∀ j, (3 < j ∧ ¬ j = 11 ∧ ¬ j = 37 ∧ ¬ j = 41 ∧ ¬ j = 42) → I2 122 j = I 122 j := fun j hj => iz j (by omega) (by omega) (by omega) (by omega) (by omega) (by omega) (by omega) (by omega)
    refine h2 n' kc _ _ L ⟨?_, c_ki ki (by rw [E 0 (by omega)]) (ej 10 (by omega)) (fun a ha => E a (by omega)), ?_, c_tx tx (by rw [E 2 (by omega)]) (E 3 (by omega)) (ej 12 (by omega)) (E 129 (by omega)), ?_, ?_, ?_, c_im im (by rw [E 0 (by omega)]) (fun a ha => E a (by omega)) (fun j h1 h2 => ej j (by omega)), c_ac act (by rw [E 28 (by omega)]) (E 29 (by omega)) (ej 69 (by omega)) (E 165 (by omega)), c_tp tp (fun a ha => E a (by omega)), c_lt lt (E 137 (by omega))⟩
    · refine plr_2 p (vq_tr (tw_q (fun a h1 h2 => cl a (by omega))) v1) ⟨fun j hj => ?_, fun f j h1 h2 h3 => ?_, fun j h1 => ?_⟩
      · rcases hj with rfl | rfl | rfl | rfl
        · exact i0
        · exact i3
        · exact i1
        · exact i2
      · have := r1 j h3
        rw [hm 152 (by omega), hm 153 (by omega), hm 154 (by omega), hm 155 (by omega), hm 156 (by omega)] at this
        obtain rfl | rfl | rfl | rfl | rfl : f = 1 ∨ f = 2 ∨ f = 3 ∨ f = 4 ∨ f = 5 := by omega
        · exact this.1
        · exact this.2.1
        · exact this.2.2.1
        · exact this.2.2.2.1
        · exact this.2.2.2.2
      · have := r2 j h1
        rw [hm 157 (by omega)] at this
        exact this
    · show CURR kc (K 49) (I2 122 11)
      rw [i11]; exact x2
    · rw [hm 158 (by omega), hm 159 (by omega), hm 160 (by omega)] at r3
      rw [cl 4 (by omega), cl 5 (by omega), cl 6 (by omega), cl 7 (by omega)]
      exact snr_cp (z := 0) (z' := 0) a1 a4 d1 (i37.trans a3) (fun j hj => ⟨d2 1 j (by omega) (by omega) hj, d2 2 j (by omega) (by omega) hj, d2 3 j (by omega) (by omega) hj⟩) r3
    · rw [hm 161 (by omega), hm 162 (by omega)] at r4
      rw [cl 8 (by omega), cl 9 (by omega), cl 10 (by omega)]
      exact afr_cp b1 b4 e1 (i41.trans b3) (fun j hj => ⟨e2 1 j (by omega) (by omega) hj, e2 2 j (by omega) (by omega) hj⟩) r4
    · rw [hm 163 (by omega), hm 164 (by omega)] at r5
      rw [cl 12 (by omega), cl 13 (by omega), cl 14 (by omega)]
      exact bkr_cp c1 c4 f1 (i42.trans c3) (fun j hj => ⟨f2 1 j (by omega) (by omega) hj, f2 2 j (by omega) (by omega) hj⟩) r5
end IMG
