/-! BOTH SIDES: a call of the class, and then the same call of the model -/
def PMo (X : pm_X) (D m : Nat) (ls : pm_l) (v : Value) (I : pm_I) (L : pm_L) (K : Nat → Nat) : Prop := ∀ Q : pm_Q, (∀ n kc (I' : pm_I) (K' : Nat → Nat) (L' : pm_L), REL n kc I' K' L' I' L' → Q (some v) SH I' L' (RR K')) → pm_wp X D m 0 ls [] 0 0 SH I L (RR K) Q
def PCi (X : pm_X) (D c : Nat) (ls : pm_l) (m : Nat) (ls' : pm_l) : Prop := ∀ n kc (I : pm_I) (K : Nat → Nat) (L : pm_L), REL n kc I K L I L → ∀ Q : pm_Q, (∀ v (I' : pm_I) (L' : pm_L) (K' : Nat → Nat), PMo X D m ls' (.int v) I' L' K' → Q (some (.int v)) SH I' L' (RR K')) → pm_wp X D c 0 ls [] 0 0 SH I L (RR K) Q
def PCl (X : pm_X) (D c : Nat) (ls : pm_l) (m : Nat) (ls' : pm_l) : Prop := ∀ n kc (I : pm_I) (K : Nat → Nat) (L : pm_L), REL n kc I K L I L → ∀ Q : pm_Q, (∀ v (I' : pm_I) (L' : pm_L) (K' : Nat → Nat), PMo X D m ls' (.long v) I' L' K' → Q (some (.long v)) SH I' L' (RR K')) → pm_wp X D c 0 ls [] 0 0 SH I L (RR K) Q
section PAIR
variable {X : pm_X} {d : Nat}
theorem mk_fc {I I' : pm_I} {ac : List acl} (f : FrC I' I) (g : MK I ac) : MK I' ac := mk_cg (by rw [f 122 (by omega) (by omega)]) (fun a _ _ => f a (by omega) (by omega)) g
theorem q_of {p what : Int32} : PCi X (d + 24) 76 [(0, .ref 0), (1, .int p), (2, .int what)] 165 [(0, .ref 122), (1, .int p), (2, .int what)] := by
  intro n kc I K L r Q h
  obtain ⟨q, ac, ci, mk⟩ := rel_k r
  refine w_of ci (fun I1 K1 f e => h _ _ _ _ (fun Q2 h2 => ?_))
  have r1 := rel_fc r f e
  have g1 := rel_g r1
  refine m_of g1.1 (by omega) (mk_fc f mk) (fun I2 f2 => ?_)
  rw [← of_vq (vq_tr (rel_g r).2 (vq_sy (ve_vq (mw_cg (fun a h => f a (by omega) (by omega)))))) ci.2.1]
  exact h2 _ _ _ _ _ (rel_fm r1 f2)
end PAIR
