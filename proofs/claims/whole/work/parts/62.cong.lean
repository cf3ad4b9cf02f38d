/-! BOTH SIDES: values that tables of one content share -/
theorem of_vq {w w' : Vw} (h : VQ w w') {n : Nat} (hn : n ≤ 6) (k : ktp) (p what : Int32) : ofC n k w p what = ofC n k w' p what := by
  unfold ofC
  by_cases a1 : hasP n p
  · rw [if_neg (fun z => z a1), if_neg (fun z => z a1)]
    obtain ⟨i, hi, rfl⟩ := hasP_of hn a1
    rw [nI_clamp (by omega)]
    unfold ofV
    rw [h.2.1 1 i (by omega) (by omega) (by omega), h.2.1 2 i (by omega) (by omega) (by omega), h.2.1 3 i (by omega) (by omega) (by omega), h.2.1 4 i (by omega) (by omega) (by omega), h.2.1 5 i (by omega) (by omega) (by omega), h.1 7 (by omega), snd_vq h (by omega), flw_vq h (by omega) hn, din_vq h (by omega) hn, gol_vq h (by omega) hn, mo_vq h (by omega)]
  · rw [if_pos a1, if_pos a1]
theorem ro_vq {w w' : Vw} (h : VQ w w') {n : Nat} (hn : n ≤ 6) (p part x : Int32) : roO n w p part x = roO n w' p part x := by
  unfold roO
  by_cases a1 : hasP n p ∧ inP part 0 3
  · simp only [if_neg (fun z => z a1 : ¬ ¬ (hasP n p ∧ inP part 0 3))]
    obtain ⟨i, hi, rfl⟩ := hasP_of hn a1.1
    rw [nI_clamp (by omega), h.2.1 1 i (by omega) (by omega) (by omega)]
  · rw [if_pos a1, if_pos a1]
theorem to_vq {w w' : Vw} (h : VQ w w') {n : Nat} (hn : n ≤ 6) (k : ktp) (what : Int32) : toC n k w what = toC n k w' what := by
  unfold toC
  rw [h.1 7 (by omega), h.1 8 (by omega), h.1 9 (by omega), noi_vq h hn]
theorem pa_vq {w w' : Vw} (h : VQ w w') (x : Int32) : paO w x = paO w' x := by
  unfold paO
  rw [h.1 8 (by omega)]
theorem on_vq {w w' : Vw} (h : VQ w w') {n : Nat} (hn : n ≤ 6) (k : ktp) (x what : Int32) : onC n k w x what = onC n k w' x what := by
  unfold onC onV
  have hb := bts_vq h hn k x.toNatClampNeg
  rw [noi_vq hb hn, hb.1 9 (by omega)]
  by_cases a1 : hasP n (what - 10)
  · obtain ⟨i, hi, e⟩ := hasP_of hn a1
    rw [if_pos a1, if_pos a1, e, nI_clamp (by omega), hb.2.1 5 i (by omega) (by omega) (by omega)]
  · rw [if_neg a1, if_neg a1]
    by_cases a2 : hasP n (what - 20)
    · obtain ⟨i, hi, e⟩ := hasP_of hn a2
      rw [if_pos a2, if_pos a2, e, nI_clamp (by omega), hb.2.1 4 i (by omega) (by omega) (by omega)]
    · rw [if_neg a2, if_neg a2]
theorem le_vq {w w' : Vw} (h : VQ w w') {n : Nat} (hn : n ≤ 6) (k : ktp) (x : Int32) : leC n k w x = leC n k w' x := by
  unfold leC
  rw [ld_vq (bts_vq h hn k _) hn]
theorem lq_vq {w w' : Vw} (h : VQ w w') {n : Nat} (hn : n ≤ 6) (k : ktp) (i : Nat) : lqC n k w i = lqC n k w' i := by
  unfold lqC
  rw [first_cg (p := lqB n k w i) (p' := lqB n k w' i) (fun j hj => by unfold lqB; rw [sb_vq (stv_vq h _ _ _) hn])]
theorem qu_vq {w w' : Vw} (h : VQ w w') {n : Nat} (hn : n ≤ 6) (k : ktp) (p : Int32) : quC n k w p = quC n k w' p := by
  unfold quC
  rw [lq_vq h hn]
theorem be_vq {w w' : Vw} (h : VQ w w') {n : Nat} (hn : n ≤ 6) (k : ktp) (x : Int32) : beC n k w x = beC n k w' x := by
  unfold beC
  rw [rch_vq h hn]
theorem cs_vq {w w' : Vw} (h : VQ w w') {n : Nat} (hn : n ≤ 6) (k : ktp) : ∀ i, i ≤ n → csO n k w i = csO n k w' i := by
  have hS : ∀ s i j, i < 6 → j < 6 → csS n k w s i j = csS n k w' s i j := fun s i j hi hj => by
    unfold csS
    rw [sb_vq (sw_vq h hi hj) hn]
  have hI : ∀ i s m, i + 1 + m ≤ n → csI n k w i s m = csI n k w' i s m := by
    intro i s m
    induction m with
    | zero => intro _; rfl
    | succ m ih =>
      intro hm
      unfold csI
      rw [ih (by omega), hS _ _ _ (by omega) (by omega)]
  intro i
  induction i with
  | zero => intro _; unfold csO; rw [sb_vq h hn]
  | succ i ih =>
    intro hi
    unfold csO
    rw [ih (by omega), hI _ _ _ (by omega)]
theorem rw_cg {n : Nat} {w : Vw} {F S T F' S' T' : Nat → Int32} {m : Int32} {z : Nat} (h1 : F z = F' z) (h2 : S z = S' z) (h3 : T z = T' z) : rwB n w F S T m z = rwB n w F' S' T' m z := by
  unfold rwB
  rw [h1, h2, h3]
theorem iso_cg {n : Nat} {w : Vw} {F S T F' S' T' : Nat → Int32} {m : Int32} : ∀ {sz : Nat}, (∀ z, z < sz → F z = F' z ∧ S z = S' z ∧ T z = T' z) → isoB n w F S T m sz = isoB n w F' S' T' m sz
  | 0, _ => rfl
  | z + 1, h => by
    obtain ⟨h1, h2, h3⟩ := h z (by omega)
    unfold isoB
    rw [iso_cg (fun y hy => h y (by omega)), rw_cg h1 h2 h3]
theorem al_cg {n : Nat} {k : ktp} {w : Vw} {F S T F' S' T' : Nat → Int32} {sz : Nat} (h : ∀ z, z < sz → F z = F' z ∧ S z = S' z ∧ T z = T' z) : ∀ J, alB n k w F S T sz J = alB n k w F' S' T' sz J
  | 0 => rfl
  | J + 1 => by
    unfold alB
    rw [al_cg h J, iso_cg h]
theorem wh_eq {n : Nat} {k : ktp} {w w' : Vw} {F S T F' S' T' : Nat → Int32} {sz M : Nat} (hv : VQ w w') (hn : n ≤ 6) (h : ∀ z, z < sz → F z = F' z ∧ S z = S' z ∧ T z = T' z) : ∀ i, whC n k w F S T sz M i = whC n k w' F' S' T' sz M i
  | 0 => rfl
  | i + 1 => by
    unfold whC
    rw [wh_eq hv hn h i, al_vq (kp_vq hv i) hn, al_cg h]
theorem ldB_eq {n : Nat} {k : ktp} {w w' : Vw} {F S T F' S' T' : Nat → Int32} {sz M p : Nat} (hv : VQ w w') (hn : n ≤ 6) (h : ∀ z, z < sz → F z = F' z ∧ S z = S' z ∧ T z = T' z) (x : Nat) : ldB n k w F S T sz M p x = ldB n k w' F' S' T' sz M p x := by
  unfold ldB
  rw [al_vq (stv_vq hv _ _ _) hn, al_cg h]
theorem ldN_eq {n : Nat} {k : ktp} {w w' : Vw} {F S T F' S' T' : Nat → Int32} {sz M p : Nat} (hv : VQ w w') (hn : n ≤ 6) (h : ∀ z, z < sz → F z = F' z ∧ S z = S' z ∧ T z = T' z) : ∀ x, ldN n k w F S T sz M p x = ldN n k w' F' S' T' sz M p x
  | 0 => rfl
  | x + 1 => by
    unfold ldN
    rw [ldN_eq hv hn h x, ldB_eq hv hn h]
theorem wa_eq {n : Nat} {k : ktp} {w w' : Vw} {F S T F' S' T' : Nat → Int32} {sz M : Nat} (hv : VQ w w') (hn : n ≤ 6) (h : ∀ z, z < sz → F z = F' z ∧ S z = S' z ∧ T z = T' z) (p what : Int32) : waC n k w F S T sz M p what = waC n k w' F' S' T' sz M p what := by
  unfold waC
  rw [ldN_eq hv hn h, first_cg (fun j _ => ldB_eq hv hn h j)]
theorem hm_vq {w w' : Vw} (h : VQ w w') {n : Nat} (hn : n ≤ 6) (k : ktp) (N : Nat) : ∀ i, hmN n k w N i = hmN n k w' N i
  | 0 => rfl
  | i + 1 => by
    unfold hmN
    rw [hm_vq h hn k N i, sb_vq (kp_vq h i) hn]
theorem od_vq {w w' : Vw} (h : VQ w w') {n : Nat} (hn : n ≤ 6) (k : ktp) (x part : Int32) : odC n k w x part = odC n k w' x part := by
  unfold odC
  rw [hm_vq h hn]
theorem me_vq {w w' : Vw} (h : VQ w w') {n : Nat} (hn : n ≤ 6) (k : ktp) (x part : Int32) : meC n k w x part = meC n k w' x part := by
  unfold meC
  rw [sm_cg (fun j hj => (bts_vq h hn k x.toNatClampNeg).2.1 5 j (by omega) (by omega) (by omega))]
theorem afC_eq {n : Nat} {k : ktp} {w w' : Vw} {F S F' S' : Nat → Int32} (hv : VQ w w') (hn : n ≤ 6) : ∀ {sz : Nat}, (∀ z, z < sz → F z = F' z ∧ (¬ F' z = 0 → S z = S' z)) → VQ (afC n k w F S sz) (afC n k w' F' S' sz)
  | 0, _ => hv
  | z + 1, h => by
    obtain ⟨h1, h2⟩ := h z (by omega)
    show VQ (afR n k (afC n k w F S z) (F z) (S z)) (afR n k (afC n k w' F' S' z) (F' z) (S' z))
    rw [h1]
    by_cases hf : F' z = 0
    · have e : ∀ s, afR n k (afC n k w F S z) (F' z) s = afR n k (afC n k w F S z) (F' z) (S' z) := fun s => by
        unfold afR
        rw [if_pos hf, if_pos hf]
      rw [e]
      exact afR_vq (afC_eq hv hn (fun y hy => h y (by omega))) hn k _ _
    · rw [h2 hf]
      exact afR_vq (afC_eq hv hn (fun y hy => h y (by omega))) hn k _ _
theorem go_eq {n : Nat} {k : ktp} {w w' : Vw} {F S F' S' : Nat → Int32} {sz : Nat} (hv : VQ w w') (hn : n ≤ 6) (h : ∀ z, z < sz → F z = F' z ∧ (¬ F' z = 0 → S z = S' z)) (what : Int32) : goC n k w F S sz what = goC n k w' F' S' sz what := by
  unfold goC
  have := afC_eq (k := k) hv hn h
  rw [noi_vq this hn, this.1 9 (by omega)]
theorem lk_eq {n : Nat} {w w' : Vw} {F S F' S' : Nat → Int32} {sz : Nat} (hv : VQ w w') (hn : n ≤ 6) (h : ∀ z, z < sz → F z = F' z ∧ S z = S' z) : lkC n w F S sz = lkC n w' F' S' sz := by
  unfold lkC
  rw [first_cg (p := lkB n w F S) (p' := lkB n w' F' S') (fun z hz => ?_)]
  obtain ⟨h1, h2⟩ := h z hz
  unfold lkB
  rw [h1, h2]
  by_cases a1 : hasP n (F' z)
  · obtain ⟨i, hi, e⟩ := hasP_of hn a1
    rw [e, nI_clamp (by omega), hv.2.1 5 i (by omega) (by omega) (by omega)]
  · rw [decide_eq_false (fun z => a1 z.1), decide_eq_false (fun z => a1 z.1)]
theorem tk_vq {w w' : Vw} (h : VQ w w') {n : Nat} (hn : n ≤ 6) (p kk : Int32) : tkC n w p kk = tkC n w' p kk := by
  unfold tkC
  by_cases a1 : hasP n p
  · obtain ⟨i, hi, rfl⟩ := hasP_of hn a1
    rw [nI_clamp (by omega), h.2.1 1 i (by omega) (by omega) (by omega)]
  · rw [if_pos a1, if_pos a1]
theorem jd_eq {n : Nat} {w w' : Vw} {S Z S' Z' : Nat → Int32} {it it' : Nat → Nat → Int64} (hv : VQ w w') (hn : n ≤ 6) (hS : ∀ t, t < 6 → S t = S' t ∧ Z t = Z' t) (hZ : ∀ t, t < 6 → ∃ m, m ≤ 60 ∧ Z' t = nI m ∧ ∀ j, j < m → it t j = it' t j) (t i : Int32) : jdC n w S Z it t i = jdC n w' S' Z' it' t i := by
  unfold jdC
  by_cases a1 : inP t 0 5
  · simp only [if_neg (fun z => z a1 : ¬ ¬ inP t 0 5)]
    obtain ⟨t, ht, rfl⟩ := inP_of (m := 5) (by omega) a1
    rw [nI_clamp (by omega), (hS t (by omega)).1, (hS t (by omega)).2]
    obtain ⟨m, hm, em, hj⟩ := hZ t (by omega)
    rw [em]
    obtain ⟨left, hl⟩ : ∃ left, left = (if inP i 0 (nI m) then nI m - i else 0) := ⟨_, rfl⟩
    rw [← hl]
    have key : firstC (jdB w left (fun p => it t (i.toNatClampNeg + p))) n = firstC (jdB w' left (fun p => it' t (i.toNatClampNeg + p))) n := by
      refine first_cg (fun p hp => ?_)
      unfold jdB
      rw [hv.2.1 5 p (by omega) (by omega) (by omega)]
      by_cases hle : left ≤ nI p
      · rw [decide_eq_true (Or.inl hle), decide_eq_true (Or.inl hle)]
      · have hin : inP i 0 (nI m) := by
          rcases Decidable.em (inP i 0 (nI m)) with z | z
          · exact z
          · rw [if_neg z] at hl
            rw [hl] at hle
            exact absurd (nI_pos' (by omega)) hle
        obtain ⟨j, hjm, rfl⟩ := inP_of (m := m) (by omega) hin
        rw [if_pos hin, nI_sub hjm (by omega)] at hl
        rw [hl, nI_leI (by omega) (by omega)] at hle
        have ec : (nI j).toNatClampNeg = j := nI_clamp (by omega)
        simp only [ec, hj (j + p) (by omega)]
    rw [key]
  · rw [if_pos a1, if_pos a1]
