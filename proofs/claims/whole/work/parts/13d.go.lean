/-! a run that begins at a stop -/
theorem pm_gos {X : pm_X} {stops : List Nat} {n : Nat} {d mi pc : Nat} {l : pm_l} {st : List Value} {c z : Nat} {sh : pm_S} {I : pm_I} {L : pm_L} {R : pm_R} {Q : pm_Q} (h : pm_rno X stops n (pm_f mi pc) d mi pc l st c z sh I L R Q) : pm_wp X d mi pc l st c z sh I L R Q := by
  unfold pm_rno at h
  split at h
  next e he => exact pm_go he h
  next => exact h.elim
def sumI : Nat → (Nat → Int32) → Int32
  | 0, _ => 0
  | n + 1, f => sumI n f + f n
abbrev Vw : Type := Nat → Nat → Int32
abbrev tw (I : pm_I) (t : Nat) : Vw := fun f => I (t + f)
abbrev stC (s i : Int32) : Prop := (s >>> (i &&& 31)) &&& 1 = 1
def ksC (s i is : Int32) : Int32 := if is = 0 then s &&& ((1 <<< (i &&& 31)) ^^^ -1) else s ||| (1 <<< (i &&& 31))
def mx (x y : Int32) : Int32 := if x < y then y else x
def mn (x y : Int32) : Int32 := if y < x then y else x
def heldC (n a b : Int32) : Int32 := mx a (mn b n)
/-- what is heard of a player -/
def sndC (w : Vw) (i : Nat) : Int32 :=
  if stC (w 0 7) (nI i) then 0 else if w 1 i = 4 then mx 30 (w 4 i) else if w 1 i = 5 ∧ w 0 8 % w 0 0 = nI i then 2 * w 4 i else w 4 i
def absC (x : Int32) : Int32 := if 0 ≤ x then x else 0 - x
def wayC (w : Vw) (i j : Nat) : Int32 := mn (absC (w 3 i - w 3 j)) (20 - absC (w 3 i - w 3 j))
def herC (w : Vw) (i j : Nat) : Int32 := if j = i then 0 else mx 0 (sndC w j - 2 * wayC w i j)
/-- what is heard most, and whose it is -/
def flwC (w : Vw) (i : Nat) : Nat → Int32 × Option Nat
  | 0 => (0, none)
  | n + 1 => if (flwC w i n).1 < herC w i n then (herC w i n, some n) else flwC w i n
def foI (o : Option Nat) : Int32 := match o with
  | none => -5
  | some j => nI j
def thC (w : Vw) (i : Nat) (o : Option Nat) : Int32 := match o with
  | none => w 5 i
  | some j => w 5 j
abbrev ownC (w : Vw) (i : Nat) : Prop := 0 < w 2 i + 2 ∧ w 0 8 % (w 2 i + 2) = 0
def r3 (x : Int32) : Nat := (x &&& 3).toNatClampNeg
def golO (w : Vw) (i : Nat) (o : Option Nat) : Int32 :=
  if w 1 i = 1 ∨ w 1 i = 4 then w 5 i else if w 1 i = 2 ∨ w 1 i = 5 then thC w i o + w 2 i
  else if w 1 i = 3 then (if ownC w i then w 5 i else thC w i o)
  else if w 1 i = 6 then (if ownC w i then w 5 i else thC w i o) + w 6 (4 * i + r3 (w 0 8)) else thC w i o
def golC (n : Nat) (w : Vw) (i : Nat) : Int32 := golO w i (flwC w i n).2
def dinC (n : Nat) (w : Vw) (i : Nat) : Int32 := sumI n (herC w i)
def noiC (n : Nat) (w : Vw) : Int32 := sumI n (sndC w)
def erC (pay wake noise earned : Int32) : Int32 := heldC (earned + (if noise < wake then noise / mx 1 pay else -10)) 0 99999
/-- a beat, all of it by how all is ahead of it -/
def btC (n : Nat) (step wake pay : Int32) (mor : Nat → Int32) (w : Vw) : Vw := fun f k => match f with
  | 0 => if k = 8 then w 0 8 + 1 else if k = 9 then erC pay wake (noiC n w) (w 0 9) else w 0 k
  | 4 => if k < n ∧ ¬ stC (w 0 7) (nI k) then heldC (w 4 k + mor k + (if sndC w k < dinC n w k then 3 else 0)) 0 99 else w 4 k
  | 5 => if k < n then heldC (w 5 k + heldC (golC n w k - w 5 k) (-step) step) 1 200 else w 5 k
  | _ => w f k
