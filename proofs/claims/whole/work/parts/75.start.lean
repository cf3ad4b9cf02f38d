theorem st_F {s : State} {args : Array Value} {A : Nat → Prop} (X : pm_X) (hts : ∀ w ∈ lw_tbl, w.before args s = true) (hgv : (Jvm.Cond.and given_1 narrow_1).before args s = true) (hnA : ∀ a : Nat, a < s.heap.size → ¬ A a) {b : Nat} (hX : va_X b X.1 X.2 s s.heap) (hbl : b < s.heap.size) :
    ∃ (F : Value) (ad : Nat → Nat), (F = .null ∨ ∃ t, F = .ref t) ∧ ad 1000000 = b ∧ pm_FX X F ad A s s.heap := by
  have hg := flat_of_before _ hgv
  obtain ⟨F, hF1, hF2⟩ := Cond.isRef_spec (args := args) (first := s) (o := none) (s := s) (idx := []) (t := .static RJ3 "SIOOBE_FORMATTER" "Ljava/util/function/BiFunction;") (hg _ (by decide +kernel))
  have hF : F = .null ∨ ∃ t, F = .ref t := by
    cases F with
    | null => exact Or.inl rfl
    | ref t => exact Or.inr ⟨t, rfl⟩
    | _ => simp [Value.isRef] at hF2
  have eta : ∀ j : Nat, j < 7 → (Term.elem (Term.static RX7 "ABOVE" "[I") (.int (Int32.ofNat j))).eval args s none [] s = some (.int ((pm_fa X 1000001).2 j)) := by
    intro j hj
    match j, hj with
    | 0, _ => exact va_eqt (z := (-1)) (hg (.eq (.elem (Term.static RX7 "ABOVE" "[I") (.int 0)) (.int (-1))) (by decide +kernel))
    | 1, _ => exact va_eqt (z := 0) (hg (.eq (.elem (Term.static RX7 "ABOVE" "[I") (.int 1)) (.int 0)) (by decide +kernel))
    | 2, _ => exact va_eqt (z := 0) (hg (.eq (.elem (Term.static RX7 "ABOVE" "[I") (.int 2)) (.int 0)) (by decide +kernel))
    | 3, _ => exact va_eqt (z := 0) (hg (.eq (.elem (Term.static RX7 "ABOVE" "[I") (.int 3)) (.int 0)) (by decide +kernel))
    | 4, _ => exact va_eqt (z := 1) (hg (.eq (.elem (Term.static RX7 "ABOVE" "[I") (.int 4)) (.int 1)) (by decide +kernel))
    | 5, _ => exact va_eqt (z := 2) (hg (.eq (.elem (Term.static RX7 "ABOVE" "[I") (.int 5)) (.int 2)) (by decide +kernel))
    | 6, _ => exact va_eqt (z := 3) (hg (.eq (.elem (Term.static RX7 "ABOVE" "[I") (.int 6)) (.int 3)) (by decide +kernel))
    | n + 7, h => exact absurd h (by omega)
  obtain ⟨ta, hta, Tta⟩ := va_Tof (args := args) (s := s) (A := A) (tm := (Term.static RX7 "ABOVE" "[I")) (ty := .int) (N := 7) (f := fun j => .int ((pm_fa X 1000001).2 j)) (by decide) (hg _ (by decide +kernel)) (va_eqt (hg _ (by decide +kernel))) eta hnA
  have etb : ∀ j : Nat, j < 21 → (Term.elem (Term.static RX0 "BODIES" "[I") (.int (Int32.ofNat j))).eval args s none [] s = some (.int ((pm_fa X 1000002).2 j)) := by
    intro j hj
    match j, hj with
    | 0, _ => exact va_eqt (z := 10) (hg (.eq (.elem (Term.static RX0 "BODIES" "[I") (.int 0)) (.int 10)) (by decide +kernel))
    | 1, _ => exact va_eqt (z := 11) (hg (.eq (.elem (Term.static RX0 "BODIES" "[I") (.int 1)) (.int 11)) (by decide +kernel))
    | 2, _ => exact va_eqt (z := 12) (hg (.eq (.elem (Term.static RX0 "BODIES" "[I") (.int 2)) (.int 12)) (by decide +kernel))
    | 3, _ => exact va_eqt (z := 0) (hg (.eq (.elem (Term.static RX0 "BODIES" "[I") (.int 3)) (.int 0)) (by decide +kernel))
    | 4, _ => exact va_eqt (z := 20) (hg (.eq (.elem (Term.static RX0 "BODIES" "[I") (.int 4)) (.int 20)) (by decide +kernel))
    | 5, _ => exact va_eqt (z := 0) (hg (.eq (.elem (Term.static RX0 "BODIES" "[I") (.int 5)) (.int 0)) (by decide +kernel))
    | 6, _ => exact va_eqt (z := 30) (hg (.eq (.elem (Term.static RX0 "BODIES" "[I") (.int 6)) (.int 30)) (by decide +kernel))
    | 7, _ => exact va_eqt (z := 0) (hg (.eq (.elem (Term.static RX0 "BODIES" "[I") (.int 7)) (.int 0)) (by decide +kernel))
    | 8, _ => exact va_eqt (z := 0) (hg (.eq (.elem (Term.static RX0 "BODIES" "[I") (.int 8)) (.int 0)) (by decide +kernel))
    | 9, _ => exact va_eqt (z := 0) (hg (.eq (.elem (Term.static RX0 "BODIES" "[I") (.int 9)) (.int 0)) (by decide +kernel))
    | 10, _ => exact va_eqt (z := 0) (hg (.eq (.elem (Term.static RX0 "BODIES" "[I") (.int 10)) (.int 0)) (by decide +kernel))
    | 11, _ => exact va_eqt (z := 40) (hg (.eq (.elem (Term.static RX0 "BODIES" "[I") (.int 11)) (.int 40)) (by decide +kernel))
    | 12, _ => exact va_eqt (z := 50) (hg (.eq (.elem (Term.static RX0 "BODIES" "[I") (.int 12)) (.int 50)) (by decide +kernel))
    | 13, _ => exact va_eqt (z := 51) (hg (.eq (.elem (Term.static RX0 "BODIES" "[I") (.int 13)) (.int 51)) (by decide +kernel))
    | 14, _ => exact va_eqt (z := 0) (hg (.eq (.elem (Term.static RX0 "BODIES" "[I") (.int 14)) (.int 0)) (by decide +kernel))
    | 15, _ => exact va_eqt (z := 0) (hg (.eq (.elem (Term.static RX0 "BODIES" "[I") (.int 15)) (.int 0)) (by decide +kernel))
    | 16, _ => exact va_eqt (z := 0) (hg (.eq (.elem (Term.static RX0 "BODIES" "[I") (.int 16)) (.int 0)) (by decide +kernel))
    | 17, _ => exact va_eqt (z := 60) (hg (.eq (.elem (Term.static RX0 "BODIES" "[I") (.int 17)) (.int 60)) (by decide +kernel))
    | 18, _ => exact va_eqt (z := 71) (hg (.eq (.elem (Term.static RX0 "BODIES" "[I") (.int 18)) (.int 71)) (by decide +kernel))
    | 19, _ => exact va_eqt (z := 70) (hg (.eq (.elem (Term.static RX0 "BODIES" "[I") (.int 19)) (.int 70)) (by decide +kernel))
    | 20, _ => exact va_eqt (z := 0) (hg (.eq (.elem (Term.static RX0 "BODIES" "[I") (.int 20)) (.int 0)) (by decide +kernel))
    | n + 21, h => exact absurd h (by omega)
  obtain ⟨tb, htb, Ttb⟩ := va_Tof (args := args) (s := s) (A := A) (tm := (Term.static RX0 "BODIES" "[I")) (ty := .int) (N := 21) (f := fun j => .int ((pm_fa X 1000002).2 j)) (by decide) (hg _ (by decide +kernel)) (va_eqt (hg _ (by decide +kernel))) etb hnA
  have s0 : ∀ i : Nat, i < 5 → ([6, 6, 4, 4, 3] : List Nat).getD i 0 < 2 ^ 31 := by
    intro i hi
    match i, hi with
    | 0, _ => exact by decide
    | 1, _ => exact by decide
    | 2, _ => exact by decide
    | 3, _ => exact by decide
    | 4, _ => exact by decide
  have s1 : ∀ i : Nat, i < 5 → (Cond.exactly (.string RX3 (pm_six i)) "java/lang/String").before args s = true := by
    intro i hi
    match i, hi with
    | 0, _ => exact hg (.exactly (Term.string RX3 76) "java/lang/String") (by decide +kernel)
    | 1, _ => exact hg (.exactly (Term.string RX3 78) "java/lang/String") (by decide +kernel)
    | 2, _ => exact hg (.exactly (Term.string RX3 80) "java/lang/String") (by decide +kernel)
    | 3, _ => exact hg (.exactly (Term.string RX3 81) "java/lang/String") (by decide +kernel)
    | 4, _ => exact hg (.exactly (Term.string RX3 82) "java/lang/String") (by decide +kernel)
  have s2 : ∀ i : Nat, i < 5 → (Cond.eq (.field (.string RX3 (pm_six i)) "java/lang/String" "coder" "B") (.int 0)).before args s = true := by
    intro i hi
    match i, hi with
    | 0, _ => exact hg (.eq (.field (Term.string RX3 76) "java/lang/String" "coder" "B") (.int 0)) (by decide +kernel)
    | 1, _ => exact hg (.eq (.field (Term.string RX3 78) "java/lang/String" "coder" "B") (.int 0)) (by decide +kernel)
    | 2, _ => exact hg (.eq (.field (Term.string RX3 80) "java/lang/String" "coder" "B") (.int 0)) (by decide +kernel)
    | 3, _ => exact hg (.eq (.field (Term.string RX3 81) "java/lang/String" "coder" "B") (.int 0)) (by decide +kernel)
    | 4, _ => exact hg (.eq (.field (Term.string RX3 82) "java/lang/String" "coder" "B") (.int 0)) (by decide +kernel)
  have s3 : ∀ i : Nat, i < 5 → (Cond.arrayOf (.field (.string RX3 (pm_six i)) "java/lang/String" "value" "[B") .byte).before args s = true := by
    intro i hi
    match i, hi with
    | 0, _ => exact hg (.arrayOf (Term.field (Term.string RX3 76) "java/lang/String" "value" "[B") .byte) (by decide +kernel)
    | 1, _ => exact hg (.arrayOf (Term.field (Term.string RX3 78) "java/lang/String" "value" "[B") .byte) (by decide +kernel)
    | 2, _ => exact hg (.arrayOf (Term.field (Term.string RX3 80) "java/lang/String" "value" "[B") .byte) (by decide +kernel)
    | 3, _ => exact hg (.arrayOf (Term.field (Term.string RX3 81) "java/lang/String" "value" "[B") .byte) (by decide +kernel)
    | 4, _ => exact hg (.arrayOf (Term.field (Term.string RX3 82) "java/lang/String" "value" "[B") .byte) (by decide +kernel)
  have s4 : ∀ i : Nat, i < 5 → (Cond.eq (.length (.field (.string RX3 (pm_six i)) "java/lang/String" "value" "[B")) (.int (Int32.ofNat (([6, 6, 4, 4, 3] : List Nat).getD i 0)))).before args s = true := by
    intro i hi
    match i, hi with
    | 0, _ => exact hg (.eq (.length (Term.field (Term.string RX3 76) "java/lang/String" "value" "[B")) (.int 6)) (by decide +kernel)
    | 1, _ => exact hg (.eq (.length (Term.field (Term.string RX3 78) "java/lang/String" "value" "[B")) (.int 6)) (by decide +kernel)
    | 2, _ => exact hg (.eq (.length (Term.field (Term.string RX3 80) "java/lang/String" "value" "[B")) (.int 4)) (by decide +kernel)
    | 3, _ => exact hg (.eq (.length (Term.field (Term.string RX3 81) "java/lang/String" "value" "[B")) (.int 4)) (by decide +kernel)
    | 4, _ => exact hg (.eq (.length (Term.field (Term.string RX3 82) "java/lang/String" "value" "[B")) (.int 3)) (by decide +kernel)
  have s5 : ∀ i : Nat, i < 5 → ∀ j : Nat, j < ([6, 6, 4, 4, 3] : List Nat).getD i 0 → (Cond.eq (.elem (.field (.string RX3 (pm_six i)) "java/lang/String" "value" "[B") (.int (Int32.ofNat j))) (.int ((([pm_fs 1000020, pm_fs 1000021, pm_fs 1000022, pm_fs 1000023, pm_fs 1000024] : List (List Int32)).getD i []).getD j 0))).before args s = true := by
    intro i hi j hj
    match i, hi with
    | 0, _ =>
      match j, hj with
      | 0, _ => exact hg (.eq (.elem (Term.field (Term.string RX3 76) "java/lang/String" "value" "[B") (.int 0)) (.int 108)) (by decide +kernel)
      | 1, _ => exact hg (.eq (.elem (Term.field (Term.string RX3 76) "java/lang/String" "value" "[B") (.int 1)) (.int 111)) (by decide +kernel)
      | 2, _ => exact hg (.eq (.elem (Term.field (Term.string RX3 76) "java/lang/String" "value" "[B") (.int 2)) (.int 117)) (by decide +kernel)
      | 3, _ => exact hg (.eq (.elem (Term.field (Term.string RX3 76) "java/lang/String" "value" "[B") (.int 3)) (.int 100)) (by decide +kernel)
      | 4, _ => exact hg (.eq (.elem (Term.field (Term.string RX3 76) "java/lang/String" "value" "[B") (.int 4)) (.int 101)) (by decide +kernel)
      | 5, _ => exact hg (.eq (.elem (Term.field (Term.string RX3 76) "java/lang/String" "value" "[B") (.int 5)) (.int 114)) (by decide +kernel)
    | 1, _ =>
      match j, hj with
      | 0, _ => exact hg (.eq (.elem (Term.field (Term.string RX3 78) "java/lang/String" "value" "[B") (.int 0)) (.int 115)) (by decide +kernel)
      | 1, _ => exact hg (.eq (.elem (Term.field (Term.string RX3 78) "java/lang/String" "value" "[B") (.int 1)) (.int 111)) (by decide +kernel)
      | 2, _ => exact hg (.eq (.elem (Term.field (Term.string RX3 78) "java/lang/String" "value" "[B") (.int 2)) (.int 102)) (by decide +kernel)
      | 3, _ => exact hg (.eq (.elem (Term.field (Term.string RX3 78) "java/lang/String" "value" "[B") (.int 3)) (.int 116)) (by decide +kernel)
      | 4, _ => exact hg (.eq (.elem (Term.field (Term.string RX3 78) "java/lang/String" "value" "[B") (.int 4)) (.int 101)) (by decide +kernel)
      | 5, _ => exact hg (.eq (.elem (Term.field (Term.string RX3 78) "java/lang/String" "value" "[B") (.int 5)) (.int 114)) (by decide +kernel)
    | 2, _ =>
      match j, hj with
      | 0, _ => exact hg (.eq (.elem (Term.field (Term.string RX3 80) "java/lang/String" "value" "[B") (.int 0)) (.int 115)) (by decide +kernel)
      | 1, _ => exact hg (.eq (.elem (Term.field (Term.string RX3 80) "java/lang/String" "value" "[B") (.int 1)) (.int 116)) (by decide +kernel)
      | 2, _ => exact hg (.eq (.elem (Term.field (Term.string RX3 80) "java/lang/String" "value" "[B") (.int 2)) (.int 101)) (by decide +kernel)
      | 3, _ => exact hg (.eq (.elem (Term.field (Term.string RX3 80) "java/lang/String" "value" "[B") (.int 3)) (.int 112)) (by decide +kernel)
    | 3, _ =>
      match j, hj with
      | 0, _ => exact hg (.eq (.elem (Term.field (Term.string RX3 81) "java/lang/String" "value" "[B") (.int 0)) (.int 119)) (by decide +kernel)
      | 1, _ => exact hg (.eq (.elem (Term.field (Term.string RX3 81) "java/lang/String" "value" "[B") (.int 1)) (.int 97)) (by decide +kernel)
      | 2, _ => exact hg (.eq (.elem (Term.field (Term.string RX3 81) "java/lang/String" "value" "[B") (.int 2)) (.int 107)) (by decide +kernel)
      | 3, _ => exact hg (.eq (.elem (Term.field (Term.string RX3 81) "java/lang/String" "value" "[B") (.int 3)) (.int 101)) (by decide +kernel)
    | 4, _ =>
      match j, hj with
      | 0, _ => exact hg (.eq (.elem (Term.field (Term.string RX3 82) "java/lang/String" "value" "[B") (.int 0)) (.int 112)) (by decide +kernel)
      | 1, _ => exact hg (.eq (.elem (Term.field (Term.string RX3 82) "java/lang/String" "value" "[B") (.int 1)) (.int 97)) (by decide +kernel)
      | 2, _ => exact hg (.eq (.elem (Term.field (Term.string RX3 82) "java/lang/String" "value" "[B") (.int 2)) (.int 121)) (by decide +kernel)
  have s6 : ∀ i j : Nat, i < 5 → j < 5 → i ≠ j → (Cond.not (Cond.eq (.string RX3 (pm_six i)) (.string RX3 (pm_six j)))).before args s = true ∨ (Cond.not (Cond.eq (.string RX3 (pm_six j)) (.string RX3 (pm_six i)))).before args s = true := by
    intro i j hi hj hne
    match i, hi, j, hj, hne with
    | 0, _, 0, _, h => exact absurd rfl h
    | 0, _, 1, _, _ => exact Or.inl (hg (.not (.eq (Term.string RX3 76) (Term.string RX3 78))) (by decide +kernel))
    | 0, _, 2, _, _ => exact Or.inl (hg (.not (.eq (Term.string RX3 76) (Term.string RX3 80))) (by decide +kernel))
    | 0, _, 3, _, _ => exact Or.inl (hg (.not (.eq (Term.string RX3 76) (Term.string RX3 81))) (by decide +kernel))
    | 0, _, 4, _, _ => exact Or.inl (hg (.not (.eq (Term.string RX3 76) (Term.string RX3 82))) (by decide +kernel))
    | 1, _, 0, _, _ => exact Or.inr (hg (.not (.eq (Term.string RX3 76) (Term.string RX3 78))) (by decide +kernel))
    | 1, _, 1, _, h => exact absurd rfl h
    | 1, _, 2, _, _ => exact Or.inl (hg (.not (.eq (Term.string RX3 78) (Term.string RX3 80))) (by decide +kernel))
    | 1, _, 3, _, _ => exact Or.inl (hg (.not (.eq (Term.string RX3 78) (Term.string RX3 81))) (by decide +kernel))
    | 1, _, 4, _, _ => exact Or.inl (hg (.not (.eq (Term.string RX3 78) (Term.string RX3 82))) (by decide +kernel))
    | 2, _, 0, _, _ => exact Or.inr (hg (.not (.eq (Term.string RX3 76) (Term.string RX3 80))) (by decide +kernel))
    | 2, _, 1, _, _ => exact Or.inr (hg (.not (.eq (Term.string RX3 78) (Term.string RX3 80))) (by decide +kernel))
    | 2, _, 2, _, h => exact absurd rfl h
    | 2, _, 3, _, _ => exact Or.inl (hg (.not (.eq (Term.string RX3 80) (Term.string RX3 81))) (by decide +kernel))
    | 2, _, 4, _, _ => exact Or.inl (hg (.not (.eq (Term.string RX3 80) (Term.string RX3 82))) (by decide +kernel))
    | 3, _, 0, _, _ => exact Or.inr (hg (.not (.eq (Term.string RX3 76) (Term.string RX3 81))) (by decide +kernel))
    | 3, _, 1, _, _ => exact Or.inr (hg (.not (.eq (Term.string RX3 78) (Term.string RX3 81))) (by decide +kernel))
    | 3, _, 2, _, _ => exact Or.inr (hg (.not (.eq (Term.string RX3 80) (Term.string RX3 81))) (by decide +kernel))
    | 3, _, 3, _, h => exact absurd rfl h
    | 3, _, 4, _, _ => exact Or.inl (hg (.not (.eq (Term.string RX3 81) (Term.string RX3 82))) (by decide +kernel))
    | 4, _, 0, _, _ => exact Or.inr (hg (.not (.eq (Term.string RX3 76) (Term.string RX3 82))) (by decide +kernel))
    | 4, _, 1, _, _ => exact Or.inr (hg (.not (.eq (Term.string RX3 78) (Term.string RX3 82))) (by decide +kernel))
    | 4, _, 2, _, _ => exact Or.inr (hg (.not (.eq (Term.string RX3 80) (Term.string RX3 82))) (by decide +kernel))
    | 4, _, 3, _, _ => exact Or.inr (hg (.not (.eq (Term.string RX3 81) (Term.string RX3 82))) (by decide +kernel))
    | 4, _, 4, _, h => exact absurd rfl h
  obtain ⟨adK, adV, hV, hE⟩ := vk_Sof (args := args) (s := s) (A := A) (N := 5) (tm := fun i => .string RX3 (pm_six i)) s0 s1 s2 s3 s4 s5 s6 hnA
  refine ⟨F, fun i => if i = 1000000 then b else if i = 1000001 then ta else if i = 1000002 then tb else if i < 1000015 then adK (i - 1000010) else adV (i - 1000020), hF, rfl, hX, hbl, hnA b hbl, ?_, Tta, ?_, Ttb, ?_, ?_, ?_, ?_, ?_, ?_, ?_⟩
  · exact va_Zof (hts _ (by decide +kernel)) (hts _ (by decide +kernel)) hta hnA
  · exact va_Zof (hts _ (by decide +kernel)) (hts _ (by decide +kernel)) htb hnA
  · exact va_Zof (hts _ (by decide +kernel)) (hts _ (by decide +kernel)) (va_eqi (hg _ (by decide +kernel))) hnA
  · exact va_Zof (hts _ (by decide +kernel)) (hts _ (by decide +kernel)) hF1 hnA
  · have e1 : ∀ i, i < 5 → (if 1000010 + i = 1000000 then b else if 1000010 + i = 1000001 then ta else if 1000010 + i = 1000002 then tb else if 1000010 + i < 1000015 then adK (1000010 + i - 1000010) else adV (1000010 + i - 1000020)) = adK i := by
      intro i hi
      rw [if_neg (by omega), if_neg (by omega), if_neg (by omega), if_pos (by omega), Nat.add_sub_cancel_left]
    have e2 : ∀ i, i < 5 → (if 1000020 + i = 1000000 then b else if 1000020 + i = 1000001 then ta else if 1000020 + i = 1000002 then tb else if 1000020 + i < 1000015 then adK (1000020 + i - 1000010) else adV (1000020 + i - 1000020)) = adV i := by
      intro i hi
      rw [if_neg (by omega), if_neg (by omega), if_neg (by omega), if_neg (by omega), Nat.add_sub_cancel_left]
    refine ⟨fun i hi => ?_, fun i j hi hj e => ?_⟩
    · have q := hV.1 i hi
      rw [← e1 i hi, ← e2 i hi] at q
      exact q
    · exact hV.2 i j hi hj ((e1 i hi).symm.trans (e.trans (e1 j hj)))
  · intro i hi
    match i, hi with
    | 0, _ => exact vk_R.of (A := args) (hts (.stringRef RX3 76 "louder") (by decide +kernel)) (hE 0 (by decide))
    | 1, _ => exact vk_R.of (A := args) (hts (.stringRef RX3 78 "softer") (by decide +kernel)) (hE 1 (by decide))
    | 2, _ => exact vk_R.of (A := args) (hts (.stringRef RX3 80 "step") (by decide +kernel)) (hE 2 (by decide))
    | 3, _ => exact vk_R.of (A := args) (hts (.stringRef RX3 81 "wake") (by decide +kernel)) (hE 3 (by decide))
    | 4, _ => exact vk_R.of (A := args) (hts (.stringRef RX3 82 "pay") (by decide +kernel)) (hE 4 (by decide))
  · intro w hw
    have hw' : w ∈ lw_tbl := List.all_eq_true.mp (show pm_nest.all (fun w => decide (w ∈ lw_tbl)) = true by decide +kernel) w hw |> of_decide_eq_true
    have ho : w.onTables = true := List.all_eq_true.mp (show pm_nest.all (fun w => w.onTables) = true by decide +kernel) w hw
    exact va_tabs ho rfl (hts w hw')
  · exact va_AO.of (A := args) (hts (.arrayOver (.object RX2)) (by decide +kernel))
  · exact va_AO.of (A := args) (hts (.arrayOver (.object RX6)) (by decide +kernel))
