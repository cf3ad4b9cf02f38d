/-! WHAT A TEXT SAYS: pure functions of its bytes (T, s of them). A result: the place, and what was read, if anything.
PART ptF: F within 4 - m others; jnF: F's (or T's) with a sign between, jnL behind the first; clF a clause; txL the text.
The class reads so (52); the model's loop with a pile of what waits answers so (53): lemmas PART, AND-loop, OR-loop. -/
abbrev rsM : Type := Nat × Option (List mk)
def sgT (T : Nat → Int32) (s p : Nat) : Int32 := if p < s then T p else -1
abbrev dgP (x : Int32) : Prop := 48 ≤ x ∧ x ≤ 57
def numP (T : Nat → Int32) (s p : Nat) : Option (Int32 × Nat) := if dgP (sgT T s p) then (if dgP (sgT T s (p + 1)) then some ((sgT T s p - 48) * 10 + sgT T s (p + 1) - 48, p + 2) else some (sgT T s p - 48, p + 1)) else none
abbrev lrP (x : Int32) : Prop := x = 112 ∨ x = 107 ∨ x = 118 ∨ x = 108 ∨ x = 99 ∨ x = 98
abbrev rlP (x : Int32) : Prop := x = 60 ∨ x = 61 ∨ x = 62
def tstF (T : Nat → Int32) (s p : Nat) : rsM := if ¬ lrP (sgT T s p) then (p, none) else if ¬ rlP (sgT T s (p + 1)) then (p + 1, none) else match numP T s (p + 2) with
  | none => (p + 2, none)
  | some (x, p') => (p', some [(sgT T s p, sgT T s (p + 1), x)])
def jnL (T : Nat → Int32) (s : Nat) (item : Nat → rsM) (c : Int32) : Nat → Nat → List mk → rsM
  | 0, p, acc => (p, some acc)
  | f + 1, p, acc => if sgT T s p = c then (match item (p + 1) with
    | (p', none) => (p', none)
    | (p', some ms) => jnL T s item c f p' (acc ++ ms ++ [(c, 0, 0)])) else (p, some acc)
def jnF (T : Nat → Int32) (s : Nat) (item : Nat → rsM) (c : Int32) (p : Nat) : rsM := match item p with
  | (p', none) => (p', none)
  | (p', some ms) => jnL T s item c 99 p' ms
def ptF (T : Nat → Int32) (s : Nat) : Nat → Nat → rsM
  | 0, p => if sgT T s p = 33 ∨ sgT T s p = 40 then (p, none) else tstF T s p
  | m + 1, p => if sgT T s p = 40 then (match jnF T s (jnF T s (ptF T s m) 38) 124 (p + 1) with
      | (p', none) => (p', none)
      | (p', some ms) => if sgT T s p' = 41 then (p' + 1, some ms) else (p', none))
    else if sgT T s p = 33 then (match ptF T s m (p + 1) with
      | (p', none) => (p', none)
      | (p', some ms) => (p', some (ms ++ [(33, 0, 0)])))
    else tstF T s p
def exF (T : Nat → Int32) (s p : Nat) : rsM := jnF T s (jnF T s (ptF T s 4) 38) 124 p
def lits (T : Nat → Int32) (s : Nat) : List Int32 → Nat → Nat × Bool
  | [], p => (p, true)
  | c :: r, p => if sgT T s p = c then lits T s r (p + 1) else (p, false)
def lts (w : Nat) : List Int32 := if w = 0 then [108, 111, 117, 100, 101, 114] else if w = 1 then [115, 111, 102, 116, 101, 114] else if w = 2 then [115, 116, 101, 112] else if w = 3 then [119, 97, 107, 101] else [112, 97, 121]
def wdF (T : Nat → Int32) (s p : Nat) : Option Nat :=
  if sgT T s p = 108 then some 0 else if sgT T s p = 112 then some 4 else if sgT T s p = 115 then (if sgT T s (p + 1) = 116 then some 2 else some 1) else if sgT T s p = 119 then some 3 else none
def clF (T : Nat → Int32) (s p : Nat) : Nat × Option acl := match wdF T s p with
  | none => (p, none)
  | some w => match lits T s (lts w ++ [32]) p with
    | (p1, false) => (p1, none)
    | (p1, true) => match numP T s p1 with
      | none => (p1, none)
      | some (x, p2) => if 2 ≤ w then (p2, some (w, x.toNatClampNeg, [])) else if sgT T s p2 = 32 then (match exF T s (p2 + 1) with
          | (p3, none) => (p3, none)
          | (p3, some ms) => (p3, some (w, x.toNatClampNeg, ms))) else (p2, none)
def txL (T : Nat → Int32) (s : Nat) : Nat → Nat → List acl → Nat × Option (List acl)
  | 0, p, _ => (p, none)
  | r + 1, p, acc => match clF T s p with
    | (p', none) => (p', none)
    | (p', some x) => if p' = s then (p', some (acc ++ [x])) else if r = 0 then (p', none) else if sgT T s p' = 59 then txL T s r (p' + 1) (acc ++ [x]) else (p', none)
theorem sg_lt {T : Nat → Int32} {s p : Nat} {c : Int32} (h : sgT T s p = c) (hc : ¬ c = -1) : p < s := by
  unfold sgT at h
  rcases Nat.lt_or_ge p s with h1 | h1
  · exact h1
  · rw [if_neg (by omega)] at h
    exact absurd h.symm hc
theorem dg_of {x : Int32} (h : dgP x) : ∃ d : Nat, d ≤ 9 ∧ x = nI (48 + d) := by
  obtain ⟨j, hj, rfl⟩ := nI_of (x := x) (fun z => by
    have h1 := Int32.le_iff_toInt_le.mp h.1
    have h2 := Int32.lt_iff_toInt_lt.mp z
    rw [show (48 : Int32).toInt = 48 from rfl] at h1
    rw [show (0 : Int32).toInt = 0 from rfl] at h2
    omega)
  have h1 := (nI_leI (a := 48) (by omega) hj).mp h.1
  have h2 := (nI_leI (b := 57) hj (by omega)).mp h.2
  exact ⟨j - 48, by omega, by congr 1; omega⟩
theorem num_of {T : Nat → Int32} {s p : Nat} {x : Int32} {p' : Nat} (h : numP T s p = some (x, p')) : (∃ c, c ≤ 99 ∧ x = nI c) ∧ p < p' ∧ (p' = p + 1 ∨ p' = p + 2) := by
  unfold numP at h
  split at h
  next h1 =>
    obtain ⟨d, hd, e⟩ := dg_of h1
    split at h
    next h2 =>
      obtain ⟨d2, hd2, e2⟩ := dg_of h2
      have hx := (Prod.mk.inj (Option.some.inj h))
      refine ⟨⟨10 * d + d2, by omega, ?_⟩, by omega, by omega⟩
      rw [← hx.1, e, e2, show (48 : Int32) = nI 48 from rfl, show (10 : Int32) = nI 10 from rfl, nI_sub (by omega) (by omega), nI_mul, nI_add, nI_sub (by omega) (by omega)]
      congr 1
      omega
    next h2 =>
      have hx := (Prod.mk.inj (Option.some.inj h))
      refine ⟨⟨d, by omega, ?_⟩, by omega, by omega⟩
      rw [← hx.1, e, show (48 : Int32) = nI 48 from rfl, nI_sub (by omega) (by omega)]
      congr 1
      omega
  next => cases h
/-! what is read is well formed: never empty, and as deep as may be -/
theorem dpL_app : ∀ (a b : List mk) (d : Nat), dpL d (a ++ b) = (dpL d a).bind (fun e => dpL e b)
  | [], b, d => rfl
  | m :: a, b, d => by
    show (dpM d m).bind (fun e => dpL e (a ++ b)) = ((dpM d m).bind (fun e => dpL e a)).bind (fun e => dpL e b)
    cases dpM d m with
    | none => rfl
    | some e => exact dpL_app a b e
theorem tst_ok {T : Nat → Int32} {s p p' : Nat} {ms : List mk} (h : tstF T s p = (p', some ms)) : ms ≠ [] ∧ ∀ d, d < 30 → dpL d ms = some (d + 1) := by
  unfold tstF at h
  split at h
  · cases h
  next hl =>
    split at h
    · cases h
    · split at h
      · cases h
      · have hx := (Prod.mk.inj h)
        obtain rfl := Option.some.inj hx.2
        refine ⟨by simp, fun d hd => ?_⟩
        have hl' : lrP (sgT T s p) := Decidable.not_not.mp hl
        have l33 : ¬ sgT T s p = 33 ∧ ¬ sgT T s p = 38 ∧ ¬ sgT T s p = 124 := by
          rcases hl' with z | z | z | z | z | z <;> rw [z] <;> decide
        simp only [dpL, dpM]
        rw [if_neg l33.1, if_neg (fun z => z.elim l33.2.1 l33.2.2), if_pos hd]
        rfl
theorem jnL_ok {T : Nat → Int32} {s : Nat} {item : Nat → rsM} {c : Int32} {k : Nat} (hc : c = 38 ∨ c = 124) (hi : ∀ p p' ms, item p = (p', some ms) → ms ≠ [] ∧ ∀ d, d + k ≤ 30 → dpL d ms = some (d + 1)) :
    ∀ f p p' acc ms, jnL T s item c f p acc = (p', some ms) → acc ≠ [] → (∀ d, d + (k + 1) ≤ 30 → dpL d acc = some (d + 1)) → ms ≠ [] ∧ ∀ d, d + (k + 1) ≤ 30 → dpL d ms = some (d + 1)
  | 0, p, p', acc, ms, h, ha, hd => by
    obtain rfl := Option.some.inj (Prod.mk.inj h).2
    exact ⟨ha, hd⟩
  | f + 1, p, p', acc, ms, h, ha, hd => by
    unfold jnL at h
    split at h
    · split at h
      · cases h
      next p1 ms1 h1 =>
        obtain ⟨i1, i2⟩ := hi _ _ _ h1
        refine jnL_ok hc hi f p1 p' _ ms h (by simp) (fun d hd1 => ?_)
        rw [dpL_app, dpL_app, hd d hd1]
        simp only [Option.bind_some]
        rw [i2 (d + 1) (by omega)]
        simp only [Option.bind_some, dpL, dpM]
        rw [if_neg (by rcases hc with rfl | rfl <;> decide), if_pos (by rcases hc with rfl | rfl <;> simp), if_pos (by omega)]
        rfl
    · obtain rfl := Option.some.inj (Prod.mk.inj h).2
      exact ⟨ha, hd⟩
theorem jnF_ok {T : Nat → Int32} {s : Nat} {item : Nat → rsM} {c : Int32} {k : Nat} (hc : c = 38 ∨ c = 124) (hi : ∀ p p' ms, item p = (p', some ms) → ms ≠ [] ∧ ∀ d, d + k ≤ 30 → dpL d ms = some (d + 1))
    {p p' : Nat} {ms : List mk} (h : jnF T s item c p = (p', some ms)) : ms ≠ [] ∧ ∀ d, d + (k + 1) ≤ 30 → dpL d ms = some (d + 1) := by
  unfold jnF at h
  split at h
  · cases h
  next p1 ms1 h1 =>
    obtain ⟨i1, i2⟩ := hi _ _ _ h1
    exact jnL_ok hc hi 99 p1 p' ms1 ms h i1 (fun d hd => i2 d (by omega))
theorem pt_ok {T : Nat → Int32} {s : Nat} : ∀ m p p' ms, ptF T s m p = (p', some ms) → ms ≠ [] ∧ ∀ d, d + (2 * m + 1) ≤ 30 → dpL d ms = some (d + 1)
  | 0, p, p', ms, h => by
    unfold ptF at h
    split at h
    · cases h
    · obtain ⟨a, b⟩ := tst_ok h
      exact ⟨a, fun d hd => b d (by omega)⟩
  | m + 1, p, p', ms, h => by
    have ih := pt_ok (T := T) (s := s) m
    unfold ptF at h
    split at h
    · split at h
      · cases h
      next p1 ms1 h1 =>
        split at h
        · obtain rfl := Option.some.inj (Prod.mk.inj h).2
          obtain ⟨a, b⟩ := jnF_ok (Or.inr rfl) (fun p p' ms h => jnF_ok (Or.inl rfl) ih h) h1
          exact ⟨a, fun d hd => b d (by omega)⟩
        · cases h
    · split at h
      · split at h
        · cases h
        next p1 ms1 h1 =>
          obtain rfl := Option.some.inj (Prod.mk.inj h).2
          obtain ⟨a, b⟩ := ih _ _ _ h1
          refine ⟨by simp, fun d hd => ?_⟩
          rw [dpL_app, b d (by omega)]
          simp only [Option.bind_some, dpL, dpM]
          rw [if_pos trivial, if_pos (by omega)]
          rfl
      · obtain ⟨a, b⟩ := tst_ok h
        exact ⟨a, fun d hd => b d (by omega)⟩
theorem ex_ok {T : Nat → Int32} {s p p' : Nat} {ms : List mk} (h : exF T s p = (p', some ms)) : ms ≠ [] ∧ dpL 0 ms = some 1 := by
  obtain ⟨a, b⟩ := jnF_ok (Or.inr rfl) (fun p p' ms h => jnF_ok (Or.inl rfl) (pt_ok 4) h) h
  exact ⟨a, b 0 (by omega)⟩
