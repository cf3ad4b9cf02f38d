/-! WHAT A PURE RUN GIVES: the least predicate that the steps close and that grows with what is wanted; its runs -/
def pm_closed (X : pm_X) (P : pm_P) : Prop := ∀ d mi pc l st c z sh I L R Q e, pm_f mi pc = some e → pm_step X P P e d mi pc l st c z sh I L R Q → P d mi pc l st c z sh I L R Q
def pm_mono (P : pm_P) : Prop := ∀ d mi pc l st c z sh I L R (Q Q' : pm_Q), (∀ v sh I L R, Q v sh I L R → Q' v sh I L R) → P d mi pc l st c z sh I L R Q → P d mi pc l st c z sh I L R Q'
/-- the weakest precondition of a run from there -/
def pm_wp (X : pm_X) : pm_P := fun d mi pc l st c z sh I L R Q => ∀ P : pm_P, pm_closed X P → pm_mono P → P d mi pc l st c z sh I L R Q
theorem pm_wp_mono (X : pm_X) : pm_mono (pm_wp X) := fun d mi pc l st c z sh I L R Q Q' hQ h P hc hm => hm d mi pc l st c z sh I L R Q Q' hQ (h P hc hm)
theorem pm_oi_mono {o : Option Value} {k k' : Int32 → Prop} (h : ∀ x, k x → k' x) (q : pm_oi o k) : pm_oi o k' := by
  obtain ⟨x, rfl, hk⟩ := pm_oi_inv q
  exact h x hk
theorem pm_ol_mono {o : Option Value} {k k' : Int64 → Prop} (h : ∀ x, k x → k' x) (q : pm_ol o k) : pm_ol o k' := by
  obtain ⟨x, rfl, hk⟩ := pm_ol_inv q
  exact h x hk
theorem pm_or_mono {o : Option Value} {k k' : Nat → Prop} (h : ∀ x, k x → k' x) (q : pm_or o k) : pm_or o k' := by
  obtain ⟨x, rfl, hk⟩ := pm_or_inv q
  exact h x hk
theorem pm_sw_mono {x : Int32} {k k' : Nat → Prop} {df : Nat} (h : ∀ x, k x → k' x) : ∀ {t : List (Int × Nat)}, pm_sw x k df t → pm_sw x k' df t
  | [], q => h _ q
  | (a, b) :: r, q => ⟨fun hx => h _ (q.1 hx), fun hx => pm_sw_mono h (q.2 hx)⟩
theorem pm_call_mono {C C' P P' : pm_P} {d mi pc : Nat} {l : pm_l} {callee : Nat} {args rest : List Value} {c z : Nat} {sh : pm_S} {I : pm_I} {L : pm_L} {R : pm_R} {Q : pm_Q} (hC : ∀ d mi pc l st c z sh I L R Q, C d mi pc l st c z sh I L R Q → C' d mi pc l st c z sh I L R Q) (hm : pm_mono C') (hP : ∀ d mi pc l st c z sh I L R Q, P d mi pc l st c z sh I L R Q → P' d mi pc l st c z sh I L R Q)
    (h : pm_call C P d mi pc l callee args rest c z sh I L R Q) : pm_call C' P' d mi pc l callee args rest c z sh I L R Q := by
  unfold pm_call at h ⊢
  cases d with
  | zero => exact h
  | succ d' =>
    obtain ⟨h1, h2, h3, h4, h5, h6⟩ := h
    exact ⟨h1, h2, h3, h4, h5, hm _ _ _ _ _ _ _ _ _ _ _ _ _ (fun v sh I L R hv => hP _ _ _ _ _ _ _ _ _ _ _ _ hv) (hC _ _ _ _ _ _ _ _ _ _ _ _ h6)⟩
theorem pm_step_mono {X : pm_X} {C C' P P' : pm_P} (hC : ∀ d mi pc l st c z sh I L R Q, C d mi pc l st c z sh I L R Q → C' d mi pc l st c z sh I L R Q) (hm : pm_mono C') (hP : ∀ d mi pc l st c z sh I L R Q, P d mi pc l st c z sh I L R Q → P' d mi pc l st c z sh I L R Q)
    {e : pm_E} {d mi pc : Nat} {l : pm_l} {st : List Value} {c z : Nat} {sh : pm_S} {I : pm_I} {L : pm_L} {R : pm_R} {Q : pm_Q} (h : pm_step X C P e d mi pc l st c z sh I L R Q) : pm_step X C' P' e d mi pc l st c z sh I L R Q := by
  have hP := fun d mi pc l st c z sh I L R Q => @hP d mi pc l st c z sh I L R Q
  have hcall := @pm_call_mono C C' P P'
  obtain ⟨ins, n, a, b, v, t⟩ := e
  cases ins <;> simp only [pm_step] at h ⊢
  all_goals (revert h; repeat' split)
  all_goals (intro h; first | exact h.elim | exact hP _ _ _ _ _ _ _ _ _ _ _ _ h | exact ⟨h.1, hP _ _ _ _ _ _ _ _ _ _ _ _ (h.2)⟩ | exact ⟨h.1, h.2.1, hP _ _ _ _ _ _ _ _ _ _ _ _ (h.2.2)⟩ | exact ⟨h.1, h.2.1, h.2.2.1, hP _ _ _ _ _ _ _ _ _ _ _ _ (h.2.2.2)⟩ | exact ⟨h.1, h.2.1, h.2.2.1, h.2.2.2.1, hP _ _ _ _ _ _ _ _ _ _ _ _ (h.2.2.2.2)⟩ | exact ⟨h.1, h.2.1, h.2.2.1, h.2.2.2.1, h.2.2.2.2.1, hP _ _ _ _ _ _ _ _ _ _ _ _ (h.2.2.2.2.2)⟩ | exact ⟨h.1, h.2.1, h.2.2.1, h.2.2.2.1, h.2.2.2.2.1, h.2.2.2.2.2.1, hP _ _ _ _ _ _ _ _ _ _ _ _ (h.2.2.2.2.2.2)⟩ | exact ⟨h.1, h.2.1, h.2.2.1, h.2.2.2.1, h.2.2.2.2.1, h.2.2.2.2.2.1, h.2.2.2.2.2.2.1, hP _ _ _ _ _ _ _ _ _ _ _ _ (h.2.2.2.2.2.2.2)⟩ | exact ⟨h.1, h.2.1, h.2.2.1, h.2.2.2.1, h.2.2.2.2.1, h.2.2.2.2.2.1, h.2.2.2.2.2.2.1, h.2.2.2.2.2.2.2.1, hP _ _ _ _ _ _ _ _ _ _ _ _ (h.2.2.2.2.2.2.2.2)⟩ | exact ⟨h.1, h.2.1, h.2.2.1, h.2.2.2.1, h.2.2.2.2.1, h.2.2.2.2.2.1, h.2.2.2.2.2.2.1, h.2.2.2.2.2.2.2.1, h.2.2.2.2.2.2.2.2.1, hP _ _ _ _ _ _ _ _ _ _ _ _ (h.2.2.2.2.2.2.2.2.2)⟩ | exact ⟨fun q => hP _ _ _ _ _ _ _ _ _ _ _ _ (h.1 q), fun q => hP _ _ _ _ _ _ _ _ _ _ _ _ (h.2 q)⟩ | exact pm_oi_mono (fun _ => hP _ _ _ _ _ _ _ _ _ _ _ _) h | exact pm_ol_mono (fun _ => hP _ _ _ _ _ _ _ _ _ _ _ _) h | exact pm_or_mono (fun _ => hP _ _ _ _ _ _ _ _ _ _ _ _) h | exact pm_sw_mono (fun _ => hP _ _ _ _ _ _ _ _ _ _ _ _) h | exact hcall hC hm hP h | exact ⟨h.1, hcall hC hm hP h.2⟩ | exact h)
theorem pm_wp_closed (X : pm_X) : pm_closed X (pm_wp X) := fun d mi pc l st c z sh I L R Q e hf h P hc hm =>
  hc d mi pc l st c z sh I L R Q e hf (pm_step_mono (fun d mi pc l st c z sh I L R Q h => h P hc hm) hm (fun d mi pc l st c z sh I L R Q h => h P hc hm) h)
/-- a run of n instructions, calls apart, up to places where it stops -/
def pm_run (X : pm_X) (stops : List Nat) : Nat → pm_P
  | 0 => pm_wp X
  | n + 1 => fun d mi pc l st c z sh I L R Q => if stops.elem pc = true then pm_wp X d mi pc l st c z sh I L R Q else match pm_f mi pc with
    | some e => pm_step X (pm_wp X) (pm_run X stops n) e d mi pc l st c z sh I L R Q
    | none => False
theorem pm_run_wp {X : pm_X} {stops : List Nat} : ∀ {n : Nat} {d mi pc : Nat} {l : pm_l} {st : List Value} {c z : Nat} {sh : pm_S} {I : pm_I} {L : pm_L} {R : pm_R} {Q : pm_Q}, pm_run X stops n d mi pc l st c z sh I L R Q → pm_wp X d mi pc l st c z sh I L R Q
  | 0, _, _, _, _, _, _, _, _, _, _, _, _, h => h
  | n + 1, d, mi, pc, l, st, c, z, sh, I, L, R, Q, h => by
    unfold pm_run at h
    split at h
    · exact h
    · split at h
      next e he => exact pm_wp_closed X _ _ _ _ _ _ _ _ _ _ _ _ e he (pm_step_mono (fun _ _ _ _ _ _ _ _ _ _ _ _ h => h) (pm_wp_mono X) (fun d mi pc l st c z sh I L R Q h => pm_run_wp h) h)
      next => exact h.elim
/-- the first step of a run is taken, whether or not it stands at a stop -/
theorem pm_go {X : pm_X} {stops : List Nat} {n : Nat} {d mi pc : Nat} {l : pm_l} {st : List Value} {c z : Nat} {sh : pm_S} {I : pm_I} {L : pm_L} {R : pm_R} {Q : pm_Q} {e : pm_E} (he : pm_f mi pc = some e) (h : pm_step X (pm_wp X) (pm_run X stops n) e d mi pc l st c z sh I L R Q) : pm_wp X d mi pc l st c z sh I L R Q :=
  pm_wp_closed X _ _ _ _ _ _ _ _ _ _ _ _ e he (pm_step_mono (fun _ _ _ _ _ _ _ _ _ _ _ _ h => h) (pm_wp_mono X) (fun d mi pc l st c z sh I L R Q h => pm_run_wp h) h)
theorem pm_snd_mono (X : pm_X) : pm_mono (pm_snd X) := fun d mi pc l st c z sh I L R Q Q' hQ h p l0 e Rm s m args below meth cd F A D CA ad0 n0 H locs ls ad Qf hcx hw hx hc hz hl fin =>
  h p l0 e Rm s m args below meth cd F A D CA ad0 n0 H locs ls ad Qf hcx hw hx hc hz hl (fun v sh' I' L' R' ad' H' locs' pc' ls' c' z' hq => fin v sh' I' L' R' ad' H' locs' pc' ls' c' z' (hQ v sh' I' L' R' hq))
