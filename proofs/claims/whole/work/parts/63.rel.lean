/-! BOTH SIDES: the relation that every call keeps -/
def CURR (kc q : Nat) (c : Int32) : Prop := (q = 31 ∧ c = -1) ∨ ∃ f, f < kc ∧ q = 74 + 6 * f ∧ c = nI f
def PLR (n : Nat) (w v : Vw) : Prop := w 0 0 = nI n ∧ RG n 9999 v ∧ VQ w v ∧ (∀ j, 4 * n ≤ j → j < 24 → v 6 j = 0) ∧ ∃ m, m < 2 ^ n ∧ v 0 7 = nI m
def KIR (kc : Nat) (I J : pm_I) : Prop := I 0 1 = nI kc ∧ J 122 10 = nI kc ∧ kc ≤ 6 ∧ CK I 31 (kOf []) ∧ ∀ f, f < kc → ∃ ac, WA ac ∧ WK (kOf ac) ∧ CK I (74 + 6 * f) (kOf ac) ∧ MKh J f (100 * f + 100) ac ∧ J 130 f = nI ac.length
def TXR (I J : pm_I) : Prop := ∃ s, s ≤ 100 ∧ I 2 0 = nI s ∧ J 122 12 = nI s ∧ ∀ j, j < s → I 3 j = J 129 j
def SNR (n : Nat) (z : Int32) (F S T : Nat → Int32) (z' : Int32) (F' S' T' : Nat → Int32) : Prop := ∃ sz, sz ≤ 5 ∧ z = nI sz ∧ z' = nI sz ∧ ∀ j, j < sz → F j = F' j ∧ S j = S' j ∧ T j = T' j ∧ (∃ p, p < n ∧ F' j = nI p) ∧ ∃ t, t ≤ 8 ∧ T' j = nI t
def AFR (z : Int32) (F S : Nat → Int32) (z' : Int32) (F' S' : Nat → Int32) : Prop := ∃ sz, sz ≤ 10 ∧ z = nI sz ∧ z' = nI sz ∧ ∀ j, j < sz → F j = F' j ∧ (¬ F' j = 0 → S j = S' j)
def BKR (n : Nat) (z : Int32) (F S : Nat → Int32) (z' : Int32) (F' S' : Nat → Int32) : Prop := ∃ sz, sz ≤ 8 ∧ z = nI sz ∧ z' = nI sz ∧ ∀ j, j < sz → F j = F' j ∧ S j = S' j ∧ ∃ p, p < n ∧ F' j = nI p
/-- the model's image, as the class's table is seen -/
def iw (I : pm_I) : Vw := fun f j => match f with
  | 0 => if j = 0 then I 122 49 else if j = 7 then I 122 52 else if j = 8 then I 122 50 else if j = 9 then I 122 51 else 0
  | f + 1 => I (152 + f) j
def IMR (kc : Nat) (I J : pm_I) (q : Nat) : Prop := (I 0 7 = 0 ∧ J 122 47 = 0) ∨ (I 0 7 = 1 ∧ J 122 47 = 1 ∧ CURR kc q (J 122 48) ∧ ∃ n, PLR n (tw I 49) (iw J) ∧
  SNR n (I 16 0) (I 17) (I 18) (I 19) (J 122 53) (J 158) (J 159) (J 160) ∧ AFR (I 20 0) (I 21) (I 22) (J 122 54) (J 161) (J 162) ∧ BKR n (I 24 0) (I 25) (I 26) (J 122 55) (J 163) (J 164))
def ACR (I J : pm_I) : Prop := ∃ l, l.length < 1000 ∧ TRC I l ∧ TRM J l
def TPR (I : pm_I) (L : pm_L) (J : pm_I) (M : pm_L) : Prop := MTp J ∧ ∀ t, t < 6 → tpS I t = J 166 t ∧ tpZ I t = J 167 t ∧ ∀ m, m ≤ 60 → J 167 t = nI m → ∀ j, j < m → tpI L t j = mtI M t j
/-- what the class's cells (I, K, L) and the model's (J, M) have to do with each other -/
def REL (n kc : Nat) (I : pm_I) (K : Nat → Nat) (L : pm_L) (J : pm_I) (M : pm_L) : Prop :=
  PLR n (tw I 37) (mw J) ∧ KIR kc I J ∧ CURR kc (K 37) (J 122 11) ∧ TXR I J ∧ SNR n (I 4 0) (I 5) (I 6) (I 7) (J 122 37) (J 145) (J 146) (J 147) ∧ AFR (I 8 0) (I 9) (I 10) (J 122 41) (J 148) (J 149) ∧
  BKR n (I 12 0) (I 13) (I 14) (J 122 42) (J 150) (J 151) ∧ IMR kc I J (K 49) ∧ ACR I J ∧ TPR I L J M ∧ LTR J
section REL
variable {n kc : Nat} {I I' J J' : pm_I} {K K' : Nat → Nat} {L L' M M' : pm_L}
theorem rel_c (r : REL n kc I K L J M) (hI : ∀ a, (a < 44 ∨ (48 < a ∧ a < 62) ∨ (73 < a ∧ a < 122)) → I' a = I a) (hK : KE K' K) (hL : ∀ a, a < 122 → L' a = L a) : REL n kc I' K' L' J M := by
  obtain ⟨pl, ki, cu, tx, sn, af, bk, im, ac, tp, lt⟩ := r
  have e : ∀ a, a ≤ 43 → I' a = I a := fun a h => hI a (by omega)
  have et : VQ (tw I' 37) (tw I 37) := ⟨fun j _ => by show I' 37 j = _; rw [e 37 (by omega)], fun f j _ hf _ => by show I' (37 + f) j = _; rw [e (37 + f) (by omega)], fun j _ => by show I' 43 j = _; rw [e 43 (by omega)]⟩
  have et9 : VQ (tw I' 49) (tw I 49) := ⟨fun j _ => by show I' 49 j = _; rw [hI 49 (by omega)], fun f j _ hf _ => by show I' (49 + f) j = _; rw [hI (49 + f) (by omega)], fun j _ => by show I' 55 j = _; rw [hI 55 (by omega)]⟩
  refine ⟨?_, ?_, ?_, ?_, ?_, ?_, ?_, ?_, ?_, ?_, lt⟩
  · exact ⟨(et.1 0 (by omega)).trans pl.1, pl.2.1, vq_tr et pl.2.2.1, pl.2.2.2⟩
  · refine ⟨by rw [e 0 (by omega)]; exact ki.1, ki.2.1, ki.2.2.1, ck_cg (fun f hf => e _ (by omega)) ki.2.2.2.1, fun f hf => ?_⟩
    have := ki.2.2.1
    obtain ⟨ac, a1, a2, a3, a4⟩ := ki.2.2.2.2 f hf
    exact ⟨ac, a1, a2, ck_cg (fun x hx => hI _ (by omega)) a3, a4⟩
  · rw [hK 37 (by omega)]; exact cu
  · unfold TXR; rw [e 2 (by omega), e 3 (by omega)]; exact tx
  · rw [e 4 (by omega), e 5 (by omega), e 6 (by omega), e 7 (by omega)]; exact sn
  · rw [e 8 (by omega), e 9 (by omega), e 10 (by omega)]; exact af
  · rw [e 12 (by omega), e 13 (by omega), e 14 (by omega)]; exact bk
  · unfold IMR
    rw [hK 49 (by omega), e 0 (by omega), e 16 (by omega), e 17 (by omega), e 18 (by omega), e 19 (by omega), e 20 (by omega), e 21 (by omega), e 22 (by omega), e 24 (by omega), e 25 (by omega), e 26 (by omega)]
    rcases im with z | ⟨z1, z2, z3, n', p, z4⟩
    · exact Or.inl z
    · exact Or.inr ⟨z1, z2, z3, n', ⟨(et9.1 0 (by omega)).trans p.1, p.2.1, vq_tr et9 p.2.2.1, p.2.2.2⟩, z4⟩
  · unfold ACR TRC; rw [e 28 (by omega), e 29 (by omega)]; exact ac
  · refine ⟨tp.1, fun t ht => ?_⟩
    obtain ⟨t1, t2, t3⟩ := tp.2 t ht
    show I' (110 + 2 * t) 0 = _ ∧ I' (110 + 2 * t) 1 = _ ∧ _
    rw [hI (110 + 2 * t) (by omega)]
    exact ⟨t1, t2, fun m hm e j hj => by show L' (111 + 2 * t) j = _; rw [hL (111 + 2 * t) (by omega)]; exact t3 m hm e j hj⟩
theorem plr_vq {w v v' : Vw} (h : VQ v' v) (p : PLR n w v) : PLR n w v' := by
  obtain ⟨p1, p2, p3, p4, m, p5, p6⟩ := p
  exact ⟨p1, rg_vq h p2, vq_tr p3 (vq_sy h), fun j a b => (h.2.2 j b).trans (p4 j a b), m, p5, (h.1 7 (by omega)).trans p6⟩
theorem rel_m (r : REL n kc I K L J M) (hV : VQ (mw J') (mw J)) (hJ : ∀ a, ((128 < a ∧ a < 138) ∨ (144 < a ∧ a < 169)) → J' a = J a) (hj : ∀ j, (j = 10 ∨ j = 11 ∨ j = 12 ∨ j = 37 ∨ j = 41 ∨ j = 42 ∨ (47 ≤ j ∧ j ≤ 55) ∨ j = 69) → J' 122 j = J 122 j) (hM : ∀ j, M' 168 j = M 168 j) : REL n kc I K L J' M' := by
  obtain ⟨pl, ki, cu, tx, sn, af, bk, im, ac, tp, lt⟩ := r
  have hi : VQ (iw J') (iw J) := by
    refine ⟨fun j hj' => ?_, fun f j h1 h2 h3 => ?_, fun j h1 => ?_⟩
    · rcases hj' with rfl | rfl | rfl | rfl
      · exact hj 49 (by omega)
      · exact hj 52 (by omega)
      · exact hj 50 (by omega)
      · exact hj 51 (by omega)
    · obtain ⟨g, rfl⟩ : ∃ g, f = g + 1 := ⟨f - 1, by omega⟩
      show J' (152 + g) j = J (152 + g) j
      rw [hJ (152 + g) (by omega)]
    · show J' 157 j = J 157 j
      rw [hJ 157 (by omega)]
  refine ⟨plr_vq hV pl, ?_, ?_, ?_, ?_, ?_, ?_, ?_, ?_, ?_, ?_⟩
  · refine ⟨ki.1, by rw [hj 10 (by omega)]; exact ki.2.1, ki.2.2.1, ki.2.2.2.1, fun f hf => ?_⟩
    obtain ⟨ac, a1, a2, a3, a4, a5⟩ := ki.2.2.2.2 f hf
    exact ⟨ac, a1, a2, a3, fun i x hx => mch_fr (fun a b c => by rw [hJ a (by omega)]) (fun j _ => by rw [hJ 135 (by omega)]) (Nat.le_refl _) (a4 i x hx), by rw [hJ 130 (by omega)]; exact a5⟩
  · rw [hj 11 (by omega)]; exact cu
  · unfold TXR; rw [hj 12 (by omega), hJ 129 (by omega)]; exact tx
  · rw [hj 37 (by omega), hJ 145 (by omega), hJ 146 (by omega), hJ 147 (by omega)]; exact sn
  · rw [hj 41 (by omega), hJ 148 (by omega), hJ 149 (by omega)]; exact af
  · rw [hj 42 (by omega), hJ 150 (by omega), hJ 151 (by omega)]; exact bk
  · unfold IMR
    rw [hj 47 (by omega), hj 48 (by omega), hj 53 (by omega), hj 54 (by omega), hj 55 (by omega), hJ 158 (by omega), hJ 159 (by omega), hJ 160 (by omega), hJ 161 (by omega), hJ 162 (by omega), hJ 163 (by omega), hJ 164 (by omega)]
    rcases im with z | ⟨z1, z2, z3, n', p, z4⟩
    · exact Or.inl z
    · exact Or.inr ⟨z1, z2, z3, n', plr_vq hi p, z4⟩
  · unfold ACR TRM; rw [hj 69 (by omega), hJ 165 (by omega)]; exact ac
  · unfold TPR MTp mtI
    rw [hJ 166 (by omega), hJ 167 (by omega)]
    simp only [hM]
    exact tp
  · unfold LTR; rw [hJ 137 (by omega)]; exact lt
/-- after a question of the class: all as before, seen from the new cells -/
theorem rel_fc (r : REL n kc I K L I L) (f : FrC I' I) (e : KE K' K) : REL n kc I' K' L I' L :=
  rel_m (rel_c r (fun a h => f a (by omega) (by omega)) e (fun _ _ => rfl)) (ve_vq (mw_cg (fun a h => f a (by omega) (by omega)))) (fun a h => f a (by omega) (by omega)) (fun j _ => by rw [f 122 (by omega) (by omega)]) (fun _ => rfl)
theorem rel_fm (r : REL n kc I K L I L) (f : FrM I' I) : REL n kc I' K L I' L :=
  rel_c (rel_m r f.2 (fun a h => f.1.1 a (by omega) (by omega) (by omega)) (fun j h => f.1.2 j (by omega)) (fun _ => rfl)) (fun a h => f.1.1 a (by omega) (by omega) (by omega)) (fun _ _ => rfl) (fun _ _ => rfl)
theorem wk_0 : WK (kOf []) := by refine ⟨?_, ?_, ?_, ?_, ?_, ?_⟩ <;> decide +kernel
theorem rel_k (r : REL n kc I K L J M) : ∃ q ac, CI I K n q (kOf ac) ∧ MK J ac := by
  obtain ⟨pl, ki, cu, -⟩ := r
  have hn := pl.2.1.1
  have h6 := ki.2.2.1
  rcases cu with ⟨c1, c2⟩ | ⟨f, hf, c1, c2⟩
  · exact ⟨31, [], ⟨pl.1, hn, Or.inl rfl, c1, ki.2.2.2.1, wk_0⟩, 0, Or.inl ⟨c2, rfl, rfl⟩, by omega, trivial, Nat.zero_le _, fun x hx => absurd hx List.not_mem_nil⟩
  · obtain ⟨ac, a1, a2, a3, a4, a5⟩ := ki.2.2.2.2 f hf
    exact ⟨74 + 6 * f, ac, ⟨pl.1, hn, by unfold isK; omega, c1, a3, a2⟩, 10 * f, Or.inr ⟨f, by omega, c2, rfl, a5⟩, by omega, mkh_mcl (by omega) a4, a1⟩
theorem rel_g (r : REL n kc I K L J M) : RG n 9999 (mw J) ∧ VQ (tw I 37) (mw J) := ⟨r.1.2.1, r.1.2.2.1⟩
end REL
