/-! a pure run is one of the machine -/
theorem pm_snd_closed (X : pm_X) : pm_closed X (pm_snd X) := fun d mi pc l st c z sh I L R Q e hf h => by
  obtain ⟨own, y, cc, ml, r, na, hm, hd, hlen, hr, hst⟩ := pm_okF hf
  obtain ⟨ins, n, a, b, v, t⟩ := e
  exact sd_step hm hd hlen hr hst h
theorem pm_sound {X : pm_X} {d mi pc : Nat} {l : pm_l} {st : List Value} {c z : Nat} {sh : pm_S} {I : pm_I} {L : pm_L} {R : pm_R} {Q : pm_Q} (h : pm_wp X d mi pc l st c z sh I L R Q) : pm_snd X d mi pc l st c z sh I L R Q := h _ (pm_snd_closed X) (pm_snd_mono X)
