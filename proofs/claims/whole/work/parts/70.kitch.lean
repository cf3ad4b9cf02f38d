/-! BOTH SIDES: kitchen -/
section KITCH
variable {X : pm_X} {d n kc : Nat} {I I' : pm_I} {K : Nat → Nat} {L L' : pm_L}
theorem cu_mo {q : Nat} {c : Int32} (h : CURR kc q c) : CURR (kc + 1) q c := by
  rcases h with a | ⟨f, hf, a⟩
  · exact Or.inl a
  · exact Or.inr ⟨f, by omega, a⟩
theorem im_mo {q : Nat} (h : IMR kc I I q) : IMR (kc + 1) I I q := by
  rcases h with a | ⟨x0, x1, x2, x3⟩
  · exact Or.inl a
  · exact Or.inr ⟨x0, x1, cu_mo x2, x3⟩
theorem ks_ck {q : Nat} {ac : List acl} (h : KS I q ac) : CK I q (kOf ac) := ⟨h.1, h.2.1, h.2.2.1, h.2.2.2.1, h.2.2.2.2.1⟩
/-- the kitchens there were ahead of a reading into slot kc -/
theorem old_k {J J0 J' : pm_I} {q : Nat} (hq : q = 74 + 6 * kc) (ki : KIR kc I J) (hI : ∀ a, 30 < a → (a < q ∨ q + 5 < a) → a < 110 → I' a = I a) (fg : FG kc J' J0) (hJ : ∀ a, 129 < a → J0 a = J a) : CK I' 31 (kOf []) ∧ ∀ f, f < kc → ∃ ac, WA ac ∧ WK (kOf ac) ∧ CK I' (74 + 6 * f) (kOf ac) ∧ MKh J' f (100 * f + 100) ac ∧ J' 130 f = nI ac.length := by
  have h6 := ki.2.2.1
  refine ⟨ck_cg (fun x hx => hI _ (by omega) (by omega) (by omega)) ki.2.2.2.1, fun f hf => ?_⟩
  obtain ⟨ac, a1, a2, a3, a4, a5⟩ := ki.2.2.2.2 f hf
  refine ⟨ac, a1, a2, ck_cg (fun x hx => hI _ (by omega) (by omega) (by omega)) a3, fun i x hx => ?_, (fg.2.1 f (by omega)).trans (by rw [hJ 130 (by omega)]; exact a5)⟩
  have hi : i < ac.length := (List.getElem?_eq_some_iff.mp hx).1
  have := a1.1
  exact mch_fr (fun a b c => (fg.2.2.1 a _ b c (by omega)).trans (by rw [hJ a (by omega)])) (fun j hj => (fg.2.2.2.1 j (by omega)).trans (by rw [hJ 135 (by omega)])) (Nat.le_refl _) (a4 i x hx)
theorem q_kitchen : PCi X (d + 24) 81 [(0, .ref 0)] 149 [(0, .ref 122)] := by
  intro n kc I K L r Q h
  obtain ⟨pl, ki, cu, tx, sn, af, bk, im, act, tp, lt⟩ := id r
  obtain ⟨s, s1, s2, s3, s4⟩ := id tx
  have h6 := ki.2.2.1
  refine w_kitchen (T := I 3) (s := s) ki.1 h6 ⟨s2, s1, fun j _ => rfl⟩ (fun e => h _ _ _ _ (fun Q2 h2 => ?_)) (fun hk e I1 b0 b => h _ _ _ _ (fun Q2 h2 => ?_)) (fun hk ac e I1 b0 b2 bs bl b => h _ _ _ _ (fun Q2 h2 => ?_))
  · exact m_kitchen (T := I 3) (s := s) ki.2.1 h6 ⟨s3, s1, fun j hj => (s4 j hj).symm⟩ lt (fun _ => h2 _ _ _ _ _ r) (fun z => absurd e (by omega)) (fun z => absurd e (by omega))
  · have hm : ∀ a, 121 < a → I1 a = I a := fun a ha => b a (by omega) (by omega)
    refine m_kitchen (T := I 3) (s := s) (by rw [hm 122 (by omega)]; exact ki.2.1) h6 ⟨by rw [hm 122 (by omega)]; exact s3, s1, fun j hj => by rw [hm 129 (by omega)]; exact (s4 j hj).symm⟩ (c_lt lt (hm 137 (by omega))) (fun z => absurd z (by omega)) (fun _ _ I2 c12 fg => ?_) (fun _ ac e' => by rw [e] at e'; cases e')
    have cl : ∀ a, a < 122 → I2 a = I1 a := fun a ha => (fg.1 a (by omega) (by omega)).trans (if_neg (by omega))
    have E : ∀ a, ¬ a = 2 → (a < 74 ∨ (109 < a ∧ a < 122) ∨ (122 < a ∧ a < 130) ∨ 136 < a) → I2 a = I a := fun a h1 ha => (fg.1 a (by omega) (by omega)).trans ((if_neg (by omega)).trans (b a h1 (by omega)))
    have ej : ∀ j, ¬ j = 12 → (j < 13 ∨ 25 < j) → I2 122 j = I 122 j := fun j h1 h3 => (fg.2.2.2.2 j (by omega) (by omega)).trans (((if_neg h1).trans (by rw [hm 122 (by omega)])))
    have hJ : ∀ a, 129 < a → pm_up I1 122 (pm_up (I1 122) 12 0) a = I a := fun a ha => (if_neg (by omega)).trans (hm a (by omega))
    have ok := old_k (I' := I2) rfl ki (fun a h1 h2 h3 => (cl a (by omega)).trans (b a (by omega) h2)) fg hJ
    refine h2 n kc _ K L ⟨c_pl pl (fun a ha => E a (by omega) (by omega)) (fun j hj => ej j (by omega) (by omega)), ⟨by rw [E 0 (by omega) (by omega)]; exact ki.1, (ej 10 (by omega) (by omega)).trans ki.2.1, h6, ok⟩, by rw [ej 11 (by omega) (by omega)]; exact cu, ⟨0, by omega, ?_, c12, fun j hj => absurd hj (by omega)⟩, k_sn sn (fun a ha => E a (by omega) (by omega)) (ej 37 (by omega) (by omega)), k_af af (fun a ha => E a (by omega) (by omega)) (ej 41 (by omega) (by omega)), k_bk bk (fun a ha => E a (by omega) (by omega)) (ej 42 (by omega) (by omega)), c_im im (by rw [E 0 (by omega) (by omega)]) (fun a ha => E a (by omega) (by omega)) (fun j h1 h3 => ej j (by omega) (by omega)), c_ac act (by rw [E 28 (by omega) (by omega)]) (E 29 (by omega) (by omega)) (ej 69 (by omega) (by omega)) (E 165 (by omega) (by omega)), c_tp tp (fun a ha => E a (by omega) (by omega)), c_lt lt (E 137 (by omega) (by omega))⟩
    rw [cl 2 (by omega)]; exact b0
  · have hm : ∀ a, 121 < a → I1 a = I a := fun a ha => b a (by omega) (by omega) (by omega)
    refine m_kitchen (T := I 3) (s := s) (by rw [hm 122 (by omega)]; exact ki.2.1) h6 ⟨by rw [hm 122 (by omega)]; exact s3, s1, fun j hj => by rw [hm 129 (by omega)]; exact (s4 j hj).symm⟩ (c_lt lt (hm 137 (by omega))) (fun z => absurd z (by omega)) (fun _ e' => by rw [e] at e'; cases e') (fun _ ac' e' I2 c12 c10 c11 mh c130 fg => ?_)
    have ea : ac = ac' := by rw [e] at e'; exact Option.some.inj e'
    subst ea
    have cl : ∀ a, a < 122 → I2 a = I1 a := fun a ha => (fg.1 a (by omega) (by omega)).trans (if_neg (by omega))
    have E : ∀ a, ¬ a = 0 → ¬ a = 2 → (a < 74 ∨ (109 < a ∧ a < 122) ∨ (122 < a ∧ a < 130) ∨ 136 < a) → I2 a = I a := fun a h0 h1 ha => (fg.1 a (by omega) (by omega)).trans ((if_neg (by omega)).trans (b a h0 h1 (by omega)))
    have ej : ∀ j, ¬ j = 10 → ¬ j = 11 → ¬ j = 12 → (j < 13 ∨ 25 < j) → I2 122 j = I 122 j := fun j g0 g1 g2 h3 => (fg.2.2.2.2 j (by omega) (by omega)).trans (by
      show pm_up (pm_up (pm_up (I1 122) 12 0) 11 (nI kc)) 10 (nI (kc + 1)) j = _
      unfold pm_up
      rw [if_neg g0, if_neg g1, if_neg g2, hm 122 (by omega)])
    have hJ : ∀ a, 129 < a → pm_up I1 122 (pm_up (pm_up (pm_up (I1 122) 12 0) 11 (nI kc)) 10 (nI (kc + 1))) a = I a := fun a ha => (if_neg (by omega)).trans (hm a (by omega))
    obtain ⟨ok1, ok2⟩ := old_k (I' := I2) rfl ki (fun a h1 h2 h3 => (cl a (by omega)).trans (b a (by omega) (by omega) h2)) fg hJ
    obtain ⟨wa, -⟩ := tx_ok 10 0 [] _ ac (Prod.ext rfl e) (by decide) (fun x hx => absurd hx List.not_mem_nil)
    refine h2 n (kc + 1) _ _ L ⟨c_pl pl (fun a ha => E a (by omega) (by omega) (by omega)) (fun j hj => ej j (by omega) (by omega) (by omega) (by omega)), ⟨by rw [cl 0 (by omega), b2]; rfl, c10, by omega, ok1, fun f hf => ?_⟩, Or.inr ⟨kc, by omega, rfl, c11⟩, ⟨0, by omega, ?_, c12, fun j hj => absurd hj (by omega)⟩, k_sn sn (fun a ha => E a (by omega) (by omega) (by omega)) (ej 37 (by omega) (by omega) (by omega) (by omega)), k_af af (fun a ha => E a (by omega) (by omega) (by omega)) (ej 41 (by omega) (by omega) (by omega) (by omega)), k_bk bk (fun a ha => E a (by omega) (by omega) (by omega)) (ej 42 (by omega) (by omega) (by omega) (by omega)), im_mo (c_im im (by rw [cl 0 (by omega), b2]; rfl) (fun a ha => E a (by omega) (by omega) (by omega)) (fun j h1 h3 => ej j (by omega) (by omega) (by omega) (by omega))), c_ac act (by rw [E 28 (by omega) (by omega) (by omega)]) (E 29 (by omega) (by omega) (by omega)) (ej 69 (by omega) (by omega) (by omega) (by omega)) (E 165 (by omega) (by omega) (by omega)), c_tp tp (fun a ha => E a (by omega) (by omega) (by omega)), c_lt lt (E 137 (by omega) (by omega) (by omega))⟩
    · by_cases g : f = kc
      · subst g
        exact ⟨ac, wa, wk_of wa bl, ck_cg (fun x hx => cl _ (by omega)) (ks_ck bs), mh, c130⟩
      · exact ok2 f (by omega)
    · rw [cl 2 (by omega)]; exact b0
end KITCH
