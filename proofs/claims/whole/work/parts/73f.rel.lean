/-! at the beginning both objects stand in the relation -/
section BEG
variable {I : pm_I} {L : pm_L}
theorem i0_z {a j : Nat} (h1 : ¬ a = 31) (h2 : ¬ (74 ≤ a ∧ a < 122)) (h3 : ¬ a = 122) (h4 : ¬ a = 137) (h5 : ¬ a = 166) : I0 a j = 0 := by
  unfold I0
  rw [if_neg (by omega), if_neg (by omega), if_neg (by omega), if_neg h4, if_neg (by omega)]
theorem rel_beg (h : ∀ a, a < 170 → I a = I0 a ∧ L a = fun _ => 0) : REL 0 0 I K0 L I L := by
  have e : ∀ a j, a < 170 → I a j = I0 a j := fun a j ha => congrFun (h a ha).1 j
  have z : ∀ a j, a < 170 → ¬ a = 31 → ¬ (74 ≤ a ∧ a < 122) → ¬ a = 122 → ¬ a = 137 → ¬ a = 166 → I a j = 0 := fun a j ha h1 h2 h3 h4 h5 => (e a j ha).trans (i0_z h1 h2 h3 h4 h5)
  have n0 : nI 0 = 0 := rfl
  have m0 : I 122 0 = 0 := (e 122 0 (by decide)).trans rfl
  have m1 : I 122 1 = 0 := (e 122 1 (by decide)).trans rfl
  have m2 : I 122 2 = 0 := (e 122 2 (by decide)).trans rfl
  have m3 : I 122 3 = 0 := (e 122 3 (by decide)).trans rfl
  refine ⟨⟨?_, ⟨by decide, m0, ⟨0, by decide, m1⟩, fun i hi => absurd hi (by omega), fun j _ => ⟨0, by decide, z 128 j (by decide) (by decide) (by decide) (by decide) (by decide) (by decide)⟩⟩, ⟨?_, ?_, ?_⟩, fun j _ _ => z 128 j (by decide) (by decide) (by decide) (by decide) (by decide) (by decide), ⟨0, by decide, m3⟩⟩, ⟨?_, ?_, by decide, ?_, fun f hf => absurd hf (by omega)⟩, Or.inl ⟨rfl, ?_⟩, ⟨0, by decide, ?_, ?_, fun j hj => absurd hj (by omega)⟩, ⟨0, by decide, ?_, ?_, fun j hj => absurd hj (by omega)⟩, ⟨0, by decide, ?_, ?_, fun j hj => absurd hj (by omega)⟩, ⟨0, by decide, ?_, ?_, fun j hj => absurd hj (by omega)⟩, Or.inl ⟨?_, ?_⟩, ⟨[], by decide, ⟨?_, fun j b _ hb => absurd hb (by simp)⟩, ⟨?_, fun j b _ hb => absurd hb (by simp)⟩⟩, ⟨fun t ht => Or.inl ⟨?_, ?_⟩, fun t ht => ⟨?_, ?_, fun m hm hz j hj => ?_⟩⟩, ?_⟩
  · exact z 37 0 (by decide) (by decide) (by decide) (by decide) (by decide) (by decide)
  · intro j hj
    rw [show tw I 37 0 j = I 37 j from rfl, z 37 j (by decide) (by decide) (by decide) (by decide) (by decide) (by decide)]
    rcases hj with hj | hj | hj | hj
    · subst hj; exact m0.symm
    · subst hj; exact m3.symm
    · subst hj; exact m1.symm
    · subst hj; exact m2.symm
  · intro f j h1 h2 _
    match f with
    | 0 => omega
    | f + 1 =>
      rw [show tw I 37 (f + 1) j = I (37 + (f + 1)) j from rfl, show mw I (f + 1) j = I (123 + f) j from rfl, z (37 + (f + 1)) j (by omega) (by omega) (by omega) (by omega) (by omega) (by omega), z (123 + f) j (by omega) (by omega) (by omega) (by omega) (by omega) (by omega)]
  · intro j _
    rw [show tw I 37 6 j = I 43 j from rfl, show mw I 6 j = I 128 j from rfl, z 43 j (by omega) (by omega) (by omega) (by omega) (by omega) (by omega), z 128 j (by omega) (by omega) (by omega) (by omega) (by omega) (by omega)]
  · exact (e 0 1 (by decide)).trans rfl
  · exact (e 122 10 (by decide)).trans rfl
  · exact ⟨(e 31 0 (by decide)).trans (by decide), (e 31 1 (by decide)).trans (by decide), (e 31 2 (by decide)).trans (by decide), (e 31 3 (by decide)).trans (by decide), trivial⟩
  · exact (e 122 11 (by decide)).trans rfl
  · exact (e 2 0 (by decide)).trans rfl
  · exact (e 122 12 (by decide)).trans rfl
  · exact (e 4 0 (by decide)).trans rfl
  · exact (e 122 37 (by decide)).trans rfl
  · exact (e 8 0 (by decide)).trans rfl
  · exact (e 122 41 (by decide)).trans rfl
  · exact (e 12 0 (by decide)).trans rfl
  · exact (e 122 42 (by decide)).trans rfl
  · exact (e 0 7 (by decide)).trans rfl
  · exact (e 122 47 (by decide)).trans rfl
  · exact (e 28 1 (by decide)).trans rfl
  · exact (e 122 69 (by decide)).trans rfl
  · rw [e 166 t (by decide)]
    unfold I0
    rw [if_neg (by omega), if_neg (by omega), if_neg (by omega), if_neg (by omega), if_pos ⟨rfl, ht⟩]
  · exact z 167 t (by decide) (by decide) (by decide) (by decide) (by decide) (by decide)
  · rw [e 166 t (by decide)]
    show I (110 + 2 * t) 0 = _
    rw [e (110 + 2 * t) 0 (by omega)]
    unfold I0
    rw [if_neg (by omega), if_pos (by omega), if_neg (by omega), if_neg (by omega), if_neg (by omega), if_neg (by omega), if_pos ⟨rfl, ht⟩]
  · rw [z 167 t (by decide) (by decide) (by decide) (by decide) (by decide) (by decide)]
    show I (110 + 2 * t) 1 = _
    rw [e (110 + 2 * t) 1 (by omega)]
    unfold I0
    rw [if_neg (by omega), if_neg (by omega), if_neg (by omega), if_neg (by omega), if_neg (by omega)]
  · show L (111 + 2 * t) j = L 168 (60 * t + j)
    rw [(h (111 + 2 * t) (by omega)).2, (h 168 (by decide)).2]
  · intro w hw k hk
    rw [e 137 _ (by decide)]
    have g : ∀ w, w < 5 → ∀ k, k < (lts w).length → ltr0.getD (offs w + k) 0 = (lts w).getD k 0 := by decide +kernel
    exact g w hw k hk
end BEG
