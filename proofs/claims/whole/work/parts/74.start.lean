theorem st_arr {args : Array Value} {s : State} {ty : FieldType} (h : (Cond.arrayClass ty).before args s = true) : ∃ cA : ClassId, ArrOfT s cA ty ∧ s.vm.findClass ("[" ++ ty.toString) = some cA := by
  obtain ⟨c, k, comp, h1, h2, h3⟩ := Cond.arrayClass_spec h
  exact ⟨c, fun n z => ⟨fun k h => (by cases h), k, h2, comp, h3⟩, h1⟩
theorem st_obj {args : Array Value} {s : State} {C : String} (h : (Cond.arrayOver (.object C)).before args s = true) : ∃ cA : ClassId, ArrOfT s cA (.object C) ∧ va_RA s cA (.object C) := by
  obtain ⟨comp, c, k, h1, h2, h3, h4, h5⟩ := Cond.arrayOver_spec h
  exact ⟨c, fun n z => ⟨fun k h => (by cases h), k, h3, comp, h4⟩, k, comp, h3, h4, h1, h5⟩
theorem st_K {s : State} {args : Array Value} (hts : ∀ w ∈ pm_tb, w.before args s = true) : ∃ D : va_G, ∀ (c : Nat) (q : vw_C), vwCl[c]? = some q → u_Kn s q.1 q.2.1 q.2.2 (D.1 c) (D.2 c) := by
  have h : ∀ k : Nat, ∃ z : ClassId × (Nat → Nat), k < 9 → u_Kn s (pm_os k) (pm_T k) (pm_nf k) z.1 z.2 := by
    intro k
    by_cases hk : k < 9
    · obtain ⟨g1, g2, -, -, g5, -⟩ := pm_cls hk
      obtain ⟨c0, i0, h0⟩ := u_known hts g2 (hts _ g5)
      exact ⟨(c0, i0), fun _ => h0⟩
    · exact ⟨(0, fun _ => 0), fun h => absurd h hk⟩
  obtain ⟨f, hf⟩ := Classical.axiomOfChoice h
  refine ⟨(fun k => (f k).1, fun k => (f k).2), fun c q hq => ?_⟩
  have hc : c < 9 := (List.getElem?_eq_some_iff.mp hq).1
  rw [(pm_cls hc).1] at hq
  cases hq
  exact hf c hc
theorem st_A {s : State} {args : Array Value} (hts : ∀ w ∈ lw_tbl, w.before args s = true) : ∃ CA : Nat → ClassId, ∀ (k : Nat) (q : ClassId × FieldType), (pm_tys CA)[k]? = some q → ArrOfT s q.1 q.2 ∧ va_RA s q.1 q.2 := by
  obtain ⟨c1, a1, b1⟩ := st_arr (ty := .int) (hts _ (by decide +kernel))
  obtain ⟨c2, a2, b2⟩ := st_arr (ty := .boolean) (hts _ (by decide +kernel))
  obtain ⟨c3, a3, b3⟩ := st_arr (ty := .long) (hts _ (by decide +kernel))
  obtain ⟨c6, a6, b6⟩ := st_obj (C := RX2) (hts _ (by decide +kernel))
  obtain ⟨c10, a10, b10⟩ := st_obj (C := RX6) (hts _ (by decide +kernel))
  refine ⟨fun k => if k = 1 then c1 else if k = 2 then c2 else if k = 3 then c3 else if k = 6 then c6 else c10, fun k q hq => ?_⟩
  match k, hq with
  | 0, hq => cases hq; exact ⟨a1, b1⟩
  | 1, hq => cases hq; exact ⟨a2, b2⟩
  | 2, hq => cases hq; exact ⟨a3, b3⟩
  | 3, hq => cases hq; exact ⟨a6, b6⟩
  | 4, hq => cases hq; exact ⟨a10, b10⟩
  | k + 5, hq => simp [pm_tys] at hq
