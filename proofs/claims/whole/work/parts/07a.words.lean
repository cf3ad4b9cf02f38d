/-! the words -/
theorem pm_fl_w : pm_fl.all (fun q => pm_has q.2 (.fieldLink (pm_os q.1.1) q.1.2.1 (pm_T q.1.2.2.1 q.1.2.2.2).1 (pm_T q.1.2.2.1 q.1.2.2.2).2.1 (pm_T q.1.2.2.1 q.1.2.2.2).2.2.1)) = true := by decide +kernel
def pm_clok (q : (Nat × Nat × Nat × Nat) × Nat) : Bool := match pm_ms[q.1.2.2.1]? with
  | some (_, y, _, _, _, _) => if q.1.2.2.2 = 2 ∨ q.1.2.2.2 = 4 then pm_nest.any (fun w => decide (w = .methodLinkNest (pm_os q.1.1) q.1.2.1 y RX7)) else pm_has q.2 (.methodLink (pm_os q.1.1) q.1.2.1 y)
  | none => false
theorem pm_cl_w : pm_cl.all pm_clok = true := by decide +kernel
def pm_mok (mi : Nat) : Bool := match pm_ms[mi]?, pm_mw[mi]? with
  | some (own, y, cc, ml, r, na), some (p1, p2, p3, p4, st) =>
    pm_has p4 (.initialized y.cls) && (if st then pm_has p2 (.static y) else pm_has p2 (.instanceMethod y)) && (if st || y.name == "<init>" then true else pm_has p3 (.selects y.cls y y)) &&
      decide (y.cls = pm_os own) && decide (y.cls ≠ "java/lang/invoke/MethodHandle") && decide (y.cls ≠ "java/lang/invoke/VarHandle") && decide ((parseMethodDescriptor y.desc).map (fun d => d.parameters.length) = some na) && plainName y.cls && decide (ml ≤ 30) && decide (pm_mx mi = ml)
  | _, _ => false
theorem pm_mok_all : (List.range 227).all pm_mok = true := by decide +kernel
/-- calls: of which kind a method is called is of which kind it is -/
theorem pm_cl_k : pm_cl.all (fun q => match pm_mw[q.1.2.2.1]?, pm_ms[q.1.2.2.1]? with
  | some (_, _, _, _, st), some (_, y, _, _, _, _) => (if q.1.2.2.2 = 1 ∨ q.1.2.2.2 = 2 then st else !st) && (if q.1.2.2.2 = 3 ∨ q.1.2.2.2 = 4 then y.name == "<init>" else !(y.name == "<init>"))
  | _, _ => false) = true := by decide +kernel
def pm_xok (q : Nat × Nat × Nat × Nat) : Bool :=
  if q.2.2.1 = 1 then pm_has q.2.2.2 (.methodLink (pm_os q.1) q.2.1 Lib.Math.max.name) else if q.2.2.1 = 2 then pm_has q.2.2.2 (.methodLink (pm_os q.1) q.2.1 Lib.Math.min.name) else if q.2.2.1 = 3 then pm_has q.2.2.2 (.methodLink (pm_os q.1) q.2.1 Lib.Math.abs.name)
  else if q.2.2.1 = 6 then pm_has q.2.2.2 (.methodLink (pm_os q.1) q.2.1 objectInit) else pm_has q.2.2.2 (.methodLink (pm_os q.1) q.2.1 arraycopyName)
theorem pm_xl_w : pm_xl.all pm_xok = true := by decide +kernel
theorem pm_kl_w : pm_kl.all (fun q => pm_has q.2.2.2 (.classLink (pm_os q.1) q.2.1 (pm_os q.2.2.1)) && decide (q.2.2.1 < 9)) = true := by decide +kernel
theorem pm_cn_w : pm_cn.all (fun q => pm_has q.2.2.2 (.constant (pm_os q.1) q.2.1 (Int32.ofInt q.2.2.1))) = true := by decide +kernel
theorem pm_cnl_w : pm_cnl.all (fun q => pm_has q.2.2.2 (.constantLong (pm_os q.1) q.2.1 (Int64.ofInt q.2.2.1))) = true := by decide +kernel
/-- single words: their places -/
theorem pm_w_maxs : Cond.static Lib.Math.max.name ∈ pm_tb := pm_has_mem (i := 136) (by decide +kernel)
theorem pm_w_mins : Cond.static Lib.Math.min.name ∈ pm_tb := pm_has_mem (i := 440) (by decide +kernel)
theorem pm_w_abss : Cond.static Lib.Math.abs.name ∈ pm_tb := pm_has_mem (i := 437) (by decide +kernel)
theorem pm_w_mini : Cond.initialized "java/lang/Math" ∈ pm_tb := pm_has_mem (i := 85) (by decide +kernel)
theorem pm_w_sysi : Cond.initialized "java/lang/System" ∈ pm_tb := pm_has_mem (i := 96) (by decide +kernel)
theorem pm_w_oini : Cond.instanceMethod objectInit ∈ pm_tb := pm_has_mem (i := 103) (by decide +kernel)
theorem pm_w_acs : Cond.static arraycopyName ∈ pm_tb := pm_has_mem (i := 660) (by decide +kernel)
theorem pm_w_acn : Cond.native arraycopyName ∈ pm_tb := pm_has_mem (i := 661) (by decide +kernel)
theorem pm_w_ari : Cond.arrayClass .int ∈ pm_tb := pm_has_mem (i := 128) (by decide +kernel)
theorem pm_w_arz : Cond.arrayClass .boolean ∈ pm_tb := pm_has_mem (i := 1150) (by decide +kernel)
theorem pm_w_arl : Cond.arrayClass .long ∈ pm_tb := pm_has_mem (i := 339) (by decide +kernel)
theorem pm_w_fab : Cond.fieldLink RX7 338 RX7 "ABOVE" "[I" ∈ pm_tb := pm_has_mem (i := 883) (by decide +kernel)
theorem pm_w_fbo : Cond.fieldLink RX0 49 RX0 "BODIES" "[I" ∈ pm_tb := pm_has_mem (i := 859) (by decide +kernel)
theorem pm_w_fva : Cond.fieldLink RJ0 9 RJ0 "value" "[B" ∈ pm_tb := pm_has_mem (i := 1546) (by decide +kernel)
theorem pm_w_fco : Cond.fieldLink RJ0 15 RJ0 "coder" "B" ∈ pm_tb := pm_has_mem (i := 1547) (by decide +kernel)
theorem pm_w_fcs : Cond.fieldLink RJ0 38 RJ0 "COMPACT_STRINGS" "Z" ∈ pm_tb := pm_has_mem (i := 538) (by decide +kernel)
theorem pm_w_fsi : Cond.fieldLink RJ0 1053 RJ3 "SIOOBE_FORMATTER" "Ljava/util/function/BiFunction;" ∈ pm_tb := pm_has_mem (i := 554) (by decide +kernel)
theorem pm_w_maxc : Cond.code Lib.Math.max.name Lib.Math.max.code 2 (some .int) ∈ pm_tb := pm_has_mem (i := 137) (by decide +kernel)
theorem pm_w_minc : Cond.code Lib.Math.min.name Lib.Math.min.code 2 (some .int) ∈ pm_tb := pm_has_mem (i := 441) (by decide +kernel)
theorem pm_w_absc : Cond.code Lib.Math.abs.name Lib.Math.abs.code 1 (some .int) ∈ pm_tb := pm_has_mem (i := 438) (by decide +kernel)
theorem pm_w_oic : Cond.code objectInit ⟨#[0xb1]⟩ 1 none ∈ pm_tb := pm_has_mem (i := 104) (by decide +kernel)
/-- the classes -/
theorem pm_u0 : ∀ w ∈ u_ws RX0 TX0 5, w ∈ pm_tb := by
  have h : (u_ws RX0 TX0 5).all (fun w => decide (w ∈ lw_tbl) && goodWord w) = true := by decide +kernel
  intro w hw
  have h1 := List.all_eq_true.mp h w hw
  simp only [Bool.and_eq_true, decide_eq_true_eq] at h1
  exact List.mem_filter.mpr ⟨h1.1, h1.2⟩
theorem pm_u1 : ∀ w ∈ u_ws RX1 TX1 2, w ∈ pm_tb := by
  have h : (u_ws RX1 TX1 2).all (fun w => decide (w ∈ lw_tbl) && goodWord w) = true := by decide +kernel
  intro w hw
  have h1 := List.all_eq_true.mp h w hw
  simp only [Bool.and_eq_true, decide_eq_true_eq] at h1
  exact List.mem_filter.mpr ⟨h1.1, h1.2⟩
theorem pm_u2 : ∀ w ∈ u_ws RX2 TX2 10, w ∈ pm_tb := by
  have h : (u_ws RX2 TX2 10).all (fun w => decide (w ∈ lw_tbl) && goodWord w) = true := by decide +kernel
  intro w hw
  have h1 := List.all_eq_true.mp h w hw
  simp only [Bool.and_eq_true, decide_eq_true_eq] at h1
  exact List.mem_filter.mpr ⟨h1.1, h1.2⟩
theorem pm_u3 : ∀ w ∈ u_ws RX3 TX3 4, w ∈ pm_tb := by
  have h : (u_ws RX3 TX3 4).all (fun w => decide (w ∈ lw_tbl) && goodWord w) = true := by decide +kernel
  intro w hw
  have h1 := List.all_eq_true.mp h w hw
  simp only [Bool.and_eq_true, decide_eq_true_eq] at h1
  exact List.mem_filter.mpr ⟨h1.1, h1.2⟩
theorem pm_u4 : ∀ w ∈ u_ws RX4 TX4 4, w ∈ pm_tb := by
  have h : (u_ws RX4 TX4 4).all (fun w => decide (w ∈ lw_tbl) && goodWord w) = true := by decide +kernel
  intro w hw
  have h1 := List.all_eq_true.mp h w hw
  simp only [Bool.and_eq_true, decide_eq_true_eq] at h1
  exact List.mem_filter.mpr ⟨h1.1, h1.2⟩
theorem pm_u5 : ∀ w ∈ u_ws RX5 TX5 16, w ∈ pm_tb := by
  have h : (u_ws RX5 TX5 16).all (fun w => decide (w ∈ lw_tbl) && goodWord w) = true := by decide +kernel
  intro w hw
  have h1 := List.all_eq_true.mp h w hw
  simp only [Bool.and_eq_true, decide_eq_true_eq] at h1
  exact List.mem_filter.mpr ⟨h1.1, h1.2⟩
theorem pm_u6 : ∀ w ∈ u_ws RX6 TX6 3, w ∈ pm_tb := by
  have h : (u_ws RX6 TX6 3).all (fun w => decide (w ∈ lw_tbl) && goodWord w) = true := by decide +kernel
  intro w hw
  have h1 := List.all_eq_true.mp h w hw
  simp only [Bool.and_eq_true, decide_eq_true_eq] at h1
  exact List.mem_filter.mpr ⟨h1.1, h1.2⟩
theorem pm_u7 : ∀ w ∈ u_ws RX7 TX7 15, w ∈ pm_tb := by
  have h : (u_ws RX7 TX7 15).all (fun w => decide (w ∈ lw_tbl) && goodWord w) = true := by decide +kernel
  intro w hw
  have h1 := List.all_eq_true.mp h w hw
  simp only [Bool.and_eq_true, decide_eq_true_eq] at h1
  exact List.mem_filter.mpr ⟨h1.1, h1.2⟩
theorem pm_u8 : ∀ w ∈ u_ws RX8 TX8 75, w ∈ pm_tb := by
  have h : (u_ws RX8 TX8 75).all (fun w => decide (w ∈ lw_tbl) && goodWord w) = true := by decide +kernel
  intro w hw
  have h1 := List.all_eq_true.mp h w hw
  simp only [Bool.and_eq_true, decide_eq_true_eq] at h1
  exact List.mem_filter.mpr ⟨h1.1, h1.2⟩
theorem pm_i0 : (Cond.instantiable RX0 5 ∈ pm_tb) ∧ Cond.initialized RX0 ∈ pm_tb := ⟨pm_has_mem (i := 159) (by decide +kernel), pm_has_mem (i := 86) (by decide +kernel)⟩
theorem pm_i1 : (Cond.instantiable RX1 2 ∈ pm_tb) ∧ Cond.initialized RX1 ∈ pm_tb := ⟨pm_has_mem (i := 309) (by decide +kernel), pm_has_mem (i := 89) (by decide +kernel)⟩
theorem pm_i2 : (Cond.instantiable RX2 10 ∈ pm_tb) ∧ Cond.initialized RX2 ∈ pm_tb := ⟨pm_has_mem (i := 184) (by decide +kernel), pm_has_mem (i := 87) (by decide +kernel)⟩
theorem pm_i3 : (Cond.instantiable RX3 4 ∈ pm_tb) ∧ Cond.initialized RX3 ∈ pm_tb := ⟨pm_has_mem (i := 108) (by decide +kernel), pm_has_mem (i := 83) (by decide +kernel)⟩
theorem pm_i4 : (Cond.instantiable RX4 4 ∈ pm_tb) ∧ Cond.initialized RX4 ∈ pm_tb := ⟨pm_has_mem (i := 130) (by decide +kernel), pm_has_mem (i := 84) (by decide +kernel)⟩
theorem pm_i5 : (Cond.instantiable RX5 16 ∈ pm_tb) ∧ Cond.initialized RX5 ∈ pm_tb := ⟨pm_has_mem (i := 234) (by decide +kernel), pm_has_mem (i := 88) (by decide +kernel)⟩
theorem pm_i6 : (Cond.instantiable RX6 3 ∈ pm_tb) ∧ Cond.initialized RX6 ∈ pm_tb := ⟨pm_has_mem (i := 321) (by decide +kernel), pm_has_mem (i := 90) (by decide +kernel)⟩
theorem pm_i7 : (Cond.instantiable RX7 15 ∈ pm_tb) ∧ Cond.initialized RX7 ∈ pm_tb := ⟨pm_has_mem (i := 98) (by decide +kernel), pm_has_mem (i := 82) (by decide +kernel)⟩
theorem pm_i8 : (Cond.instantiable RX8 75 ∈ pm_tb) ∧ Cond.initialized RX8 ∈ pm_tb := ⟨pm_has_mem (i := 919) (by decide +kernel), pm_has_mem (i := 91) (by decide +kernel)⟩
theorem pm_k0 : ∀ k, k < 5 → (pm_kd 0 k = 0 ∧ tyX0 k = .int) ∨ (pm_kd 0 k = 1 ∧ tyX0 k = .boolean) ∨ (pm_kd 0 k = 2 ∧ ((∃ n, tyX0 k = .object n) ∨ ∃ t, tyX0 k = .array t))
  | 0, _ => Or.inr (Or.inr ⟨rfl, Or.inr ⟨_, rfl⟩⟩)
  | 1, _ => Or.inl ⟨rfl, rfl⟩
  | 2, _ => Or.inl ⟨rfl, rfl⟩
  | 3, _ => Or.inl ⟨rfl, rfl⟩
  | 4, _ => Or.inl ⟨rfl, rfl⟩
  | n + 5, h => absurd h (by omega)
theorem pm_k1 : ∀ k, k < 2 → (pm_kd 1 k = 0 ∧ tyX1 k = .int) ∨ (pm_kd 1 k = 1 ∧ tyX1 k = .boolean) ∨ (pm_kd 1 k = 2 ∧ ((∃ n, tyX1 k = .object n) ∨ ∃ t, tyX1 k = .array t))
  | 0, _ => Or.inr (Or.inr ⟨rfl, Or.inl ⟨_, rfl⟩⟩)
  | 1, _ => Or.inr (Or.inr ⟨rfl, Or.inl ⟨_, rfl⟩⟩)
  | n + 2, h => absurd h (by omega)
theorem pm_k2 : ∀ k, k < 10 → (pm_kd 2 k = 0 ∧ tyX2 k = .int) ∨ (pm_kd 2 k = 1 ∧ tyX2 k = .boolean) ∨ (pm_kd 2 k = 2 ∧ ((∃ n, tyX2 k = .object n) ∨ ∃ t, tyX2 k = .array t))
  | 0, _ => Or.inl ⟨rfl, rfl⟩
  | 1, _ => Or.inl ⟨rfl, rfl⟩
  | 2, _ => Or.inl ⟨rfl, rfl⟩
  | 3, _ => Or.inl ⟨rfl, rfl⟩
  | 4, _ => Or.inr (Or.inr ⟨rfl, Or.inr ⟨_, rfl⟩⟩)
  | 5, _ => Or.inr (Or.inr ⟨rfl, Or.inr ⟨_, rfl⟩⟩)
  | 6, _ => Or.inl ⟨rfl, rfl⟩
  | 7, _ => Or.inr (Or.inr ⟨rfl, Or.inr ⟨_, rfl⟩⟩)
  | 8, _ => Or.inr (Or.inr ⟨rfl, Or.inr ⟨_, rfl⟩⟩)
  | 9, _ => Or.inr (Or.inr ⟨rfl, Or.inr ⟨_, rfl⟩⟩)
  | n + 10, h => absurd h (by omega)
theorem pm_k3 : ∀ k, k < 4 → (pm_kd 3 k = 0 ∧ tyX3 k = .int) ∨ (pm_kd 3 k = 1 ∧ tyX3 k = .boolean) ∨ (pm_kd 3 k = 2 ∧ ((∃ n, tyX3 k = .object n) ∨ ∃ t, tyX3 k = .array t))
  | 0, _ => Or.inl ⟨rfl, rfl⟩
  | 1, _ => Or.inl ⟨rfl, rfl⟩
  | 2, _ => Or.inr (Or.inr ⟨rfl, Or.inr ⟨_, rfl⟩⟩)
  | 3, _ => Or.inl ⟨rfl, rfl⟩
  | n + 4, h => absurd h (by omega)
theorem pm_k4 : ∀ k, k < 4 → (pm_kd 4 k = 0 ∧ tyX4 k = .int) ∨ (pm_kd 4 k = 1 ∧ tyX4 k = .boolean) ∨ (pm_kd 4 k = 2 ∧ ((∃ n, tyX4 k = .object n) ∨ ∃ t, tyX4 k = .array t))
  | 0, _ => Or.inl ⟨rfl, rfl⟩
  | 1, _ => Or.inr (Or.inr ⟨rfl, Or.inr ⟨_, rfl⟩⟩)
  | 2, _ => Or.inr (Or.inr ⟨rfl, Or.inr ⟨_, rfl⟩⟩)
  | 3, _ => Or.inr (Or.inr ⟨rfl, Or.inr ⟨_, rfl⟩⟩)
  | n + 4, h => absurd h (by omega)
theorem pm_k5 : ∀ k, k < 16 → (pm_kd 5 k = 0 ∧ tyX5 k = .int) ∨ (pm_kd 5 k = 1 ∧ tyX5 k = .boolean) ∨ (pm_kd 5 k = 2 ∧ ((∃ n, tyX5 k = .object n) ∨ ∃ t, tyX5 k = .array t))
  | 0, _ => Or.inl ⟨rfl, rfl⟩
  | 1, _ => Or.inr (Or.inr ⟨rfl, Or.inr ⟨_, rfl⟩⟩)
  | 2, _ => Or.inr (Or.inr ⟨rfl, Or.inr ⟨_, rfl⟩⟩)
  | 3, _ => Or.inr (Or.inr ⟨rfl, Or.inr ⟨_, rfl⟩⟩)
  | 4, _ => Or.inr (Or.inr ⟨rfl, Or.inr ⟨_, rfl⟩⟩)
  | 5, _ => Or.inr (Or.inr ⟨rfl, Or.inr ⟨_, rfl⟩⟩)
  | 6, _ => Or.inr (Or.inr ⟨rfl, Or.inr ⟨_, rfl⟩⟩)
  | 7, _ => Or.inl ⟨rfl, rfl⟩
  | 8, _ => Or.inl ⟨rfl, rfl⟩
  | 9, _ => Or.inl ⟨rfl, rfl⟩
  | 10, _ => Or.inr (Or.inr ⟨rfl, Or.inl ⟨_, rfl⟩⟩)
  | 11, _ => Or.inr (Or.inr ⟨rfl, Or.inr ⟨_, rfl⟩⟩)
  | 12, _ => Or.inr (Or.inr ⟨rfl, Or.inr ⟨_, rfl⟩⟩)
  | 13, _ => Or.inr (Or.inr ⟨rfl, Or.inr ⟨_, rfl⟩⟩)
  | 14, _ => Or.inr (Or.inr ⟨rfl, Or.inr ⟨_, rfl⟩⟩)
  | 15, _ => Or.inr (Or.inr ⟨rfl, Or.inr ⟨_, rfl⟩⟩)
  | n + 16, h => absurd h (by omega)
theorem pm_k6 : ∀ k, k < 3 → (pm_kd 6 k = 0 ∧ tyX6 k = .int) ∨ (pm_kd 6 k = 1 ∧ tyX6 k = .boolean) ∨ (pm_kd 6 k = 2 ∧ ((∃ n, tyX6 k = .object n) ∨ ∃ t, tyX6 k = .array t))
  | 0, _ => Or.inl ⟨rfl, rfl⟩
  | 1, _ => Or.inl ⟨rfl, rfl⟩
  | 2, _ => Or.inr (Or.inr ⟨rfl, Or.inr ⟨_, rfl⟩⟩)
  | n + 3, h => absurd h (by omega)
theorem pm_k7 : ∀ k, k < 15 → (pm_kd 7 k = 0 ∧ tyX7 k = .int) ∨ (pm_kd 7 k = 1 ∧ tyX7 k = .boolean) ∨ (pm_kd 7 k = 2 ∧ ((∃ n, tyX7 k = .object n) ∨ ∃ t, tyX7 k = .array t))
  | 0, _ => Or.inr (Or.inr ⟨rfl, Or.inr ⟨_, rfl⟩⟩)
  | 1, _ => Or.inl ⟨rfl, rfl⟩
  | 2, _ => Or.inr (Or.inr ⟨rfl, Or.inl ⟨_, rfl⟩⟩)
  | 3, _ => Or.inr (Or.inr ⟨rfl, Or.inl ⟨_, rfl⟩⟩)
  | 4, _ => Or.inr (Or.inr ⟨rfl, Or.inl ⟨_, rfl⟩⟩)
  | 5, _ => Or.inr (Or.inr ⟨rfl, Or.inl ⟨_, rfl⟩⟩)
  | 6, _ => Or.inr (Or.inr ⟨rfl, Or.inl ⟨_, rfl⟩⟩)
  | 7, _ => Or.inr (Or.inl ⟨rfl, rfl⟩)
  | 8, _ => Or.inr (Or.inr ⟨rfl, Or.inl ⟨_, rfl⟩⟩)
  | 9, _ => Or.inr (Or.inr ⟨rfl, Or.inl ⟨_, rfl⟩⟩)
  | 10, _ => Or.inr (Or.inr ⟨rfl, Or.inl ⟨_, rfl⟩⟩)
  | 11, _ => Or.inr (Or.inr ⟨rfl, Or.inl ⟨_, rfl⟩⟩)
  | 12, _ => Or.inr (Or.inr ⟨rfl, Or.inl ⟨_, rfl⟩⟩)
  | 13, _ => Or.inr (Or.inr ⟨rfl, Or.inl ⟨_, rfl⟩⟩)
  | 14, _ => Or.inr (Or.inr ⟨rfl, Or.inr ⟨_, rfl⟩⟩)
  | n + 15, h => absurd h (by omega)
theorem pm_k8 : ∀ k, k < 75 → (pm_kd 8 k = 0 ∧ tyX8 k = .int) ∨ (pm_kd 8 k = 1 ∧ tyX8 k = .boolean) ∨ (pm_kd 8 k = 2 ∧ ((∃ n, tyX8 k = .object n) ∨ ∃ t, tyX8 k = .array t))
  | 0, _ => Or.inl ⟨rfl, rfl⟩
  | 1, _ => Or.inl ⟨rfl, rfl⟩
  | 2, _ => Or.inl ⟨rfl, rfl⟩
  | 3, _ => Or.inl ⟨rfl, rfl⟩
  | 4, _ => Or.inr (Or.inr ⟨rfl, Or.inr ⟨_, rfl⟩⟩)
  | 5, _ => Or.inr (Or.inr ⟨rfl, Or.inr ⟨_, rfl⟩⟩)
  | 6, _ => Or.inr (Or.inr ⟨rfl, Or.inr ⟨_, rfl⟩⟩)
  | 7, _ => Or.inr (Or.inr ⟨rfl, Or.inr ⟨_, rfl⟩⟩)
  | 8, _ => Or.inr (Or.inr ⟨rfl, Or.inr ⟨_, rfl⟩⟩)
  | 9, _ => Or.inr (Or.inr ⟨rfl, Or.inr ⟨_, rfl⟩⟩)
  | 10, _ => Or.inl ⟨rfl, rfl⟩
  | 11, _ => Or.inl ⟨rfl, rfl⟩
  | 12, _ => Or.inl ⟨rfl, rfl⟩
  | 13, _ => Or.inl ⟨rfl, rfl⟩
  | 14, _ => Or.inl ⟨rfl, rfl⟩
  | 15, _ => Or.inr (Or.inr ⟨rfl, Or.inr ⟨_, rfl⟩⟩)
  | 16, _ => Or.inr (Or.inr ⟨rfl, Or.inr ⟨_, rfl⟩⟩)
  | 17, _ => Or.inr (Or.inr ⟨rfl, Or.inr ⟨_, rfl⟩⟩)
  | 18, _ => Or.inr (Or.inr ⟨rfl, Or.inr ⟨_, rfl⟩⟩)
  | 19, _ => Or.inr (Or.inr ⟨rfl, Or.inr ⟨_, rfl⟩⟩)
  | 20, _ => Or.inr (Or.inr ⟨rfl, Or.inr ⟨_, rfl⟩⟩)
  | 21, _ => Or.inr (Or.inr ⟨rfl, Or.inr ⟨_, rfl⟩⟩)
  | 22, _ => Or.inr (Or.inr ⟨rfl, Or.inr ⟨_, rfl⟩⟩)
  | 23, _ => Or.inl ⟨rfl, rfl⟩
  | 24, _ => Or.inl ⟨rfl, rfl⟩
  | 25, _ => Or.inl ⟨rfl, rfl⟩
  | 26, _ => Or.inr (Or.inr ⟨rfl, Or.inr ⟨_, rfl⟩⟩)
  | 27, _ => Or.inr (Or.inr ⟨rfl, Or.inr ⟨_, rfl⟩⟩)
  | 28, _ => Or.inr (Or.inr ⟨rfl, Or.inr ⟨_, rfl⟩⟩)
  | 29, _ => Or.inr (Or.inr ⟨rfl, Or.inr ⟨_, rfl⟩⟩)
  | 30, _ => Or.inl ⟨rfl, rfl⟩
  | 31, _ => Or.inl ⟨rfl, rfl⟩
  | 32, _ => Or.inl ⟨rfl, rfl⟩
  | 33, _ => Or.inr (Or.inr ⟨rfl, Or.inr ⟨_, rfl⟩⟩)
  | 34, _ => Or.inr (Or.inr ⟨rfl, Or.inr ⟨_, rfl⟩⟩)
  | 35, _ => Or.inr (Or.inr ⟨rfl, Or.inr ⟨_, rfl⟩⟩)
  | 36, _ => Or.inr (Or.inr ⟨rfl, Or.inr ⟨_, rfl⟩⟩)
  | 37, _ => Or.inl ⟨rfl, rfl⟩
  | 38, _ => Or.inr (Or.inr ⟨rfl, Or.inr ⟨_, rfl⟩⟩)
  | 39, _ => Or.inr (Or.inr ⟨rfl, Or.inr ⟨_, rfl⟩⟩)
  | 40, _ => Or.inr (Or.inr ⟨rfl, Or.inr ⟨_, rfl⟩⟩)
  | 41, _ => Or.inl ⟨rfl, rfl⟩
  | 42, _ => Or.inl ⟨rfl, rfl⟩
  | 43, _ => Or.inr (Or.inr ⟨rfl, Or.inr ⟨_, rfl⟩⟩)
  | 44, _ => Or.inr (Or.inr ⟨rfl, Or.inr ⟨_, rfl⟩⟩)
  | 45, _ => Or.inr (Or.inr ⟨rfl, Or.inr ⟨_, rfl⟩⟩)
  | 46, _ => Or.inr (Or.inr ⟨rfl, Or.inr ⟨_, rfl⟩⟩)
  | 47, _ => Or.inr (Or.inl ⟨rfl, rfl⟩)
  | 48, _ => Or.inl ⟨rfl, rfl⟩
  | 49, _ => Or.inl ⟨rfl, rfl⟩
  | 50, _ => Or.inl ⟨rfl, rfl⟩
  | 51, _ => Or.inl ⟨rfl, rfl⟩
  | 52, _ => Or.inl ⟨rfl, rfl⟩
  | 53, _ => Or.inl ⟨rfl, rfl⟩
  | 54, _ => Or.inl ⟨rfl, rfl⟩
  | 55, _ => Or.inl ⟨rfl, rfl⟩
  | 56, _ => Or.inr (Or.inr ⟨rfl, Or.inr ⟨_, rfl⟩⟩)
  | 57, _ => Or.inr (Or.inr ⟨rfl, Or.inr ⟨_, rfl⟩⟩)
  | 58, _ => Or.inr (Or.inr ⟨rfl, Or.inr ⟨_, rfl⟩⟩)
  | 59, _ => Or.inr (Or.inr ⟨rfl, Or.inr ⟨_, rfl⟩⟩)
  | 60, _ => Or.inr (Or.inr ⟨rfl, Or.inr ⟨_, rfl⟩⟩)
  | 61, _ => Or.inr (Or.inr ⟨rfl, Or.inr ⟨_, rfl⟩⟩)
  | 62, _ => Or.inr (Or.inr ⟨rfl, Or.inr ⟨_, rfl⟩⟩)
  | 63, _ => Or.inr (Or.inr ⟨rfl, Or.inr ⟨_, rfl⟩⟩)
  | 64, _ => Or.inr (Or.inr ⟨rfl, Or.inr ⟨_, rfl⟩⟩)
  | 65, _ => Or.inr (Or.inr ⟨rfl, Or.inr ⟨_, rfl⟩⟩)
  | 66, _ => Or.inr (Or.inr ⟨rfl, Or.inr ⟨_, rfl⟩⟩)
  | 67, _ => Or.inr (Or.inr ⟨rfl, Or.inr ⟨_, rfl⟩⟩)
  | 68, _ => Or.inr (Or.inr ⟨rfl, Or.inr ⟨_, rfl⟩⟩)
  | 69, _ => Or.inl ⟨rfl, rfl⟩
  | 70, _ => Or.inr (Or.inr ⟨rfl, Or.inr ⟨_, rfl⟩⟩)
  | 71, _ => Or.inr (Or.inr ⟨rfl, Or.inr ⟨_, rfl⟩⟩)
  | 72, _ => Or.inr (Or.inr ⟨rfl, Or.inr ⟨_, rfl⟩⟩)
  | 73, _ => Or.inr (Or.inr ⟨rfl, Or.inr ⟨_, rfl⟩⟩)
  | 74, _ => Or.inr (Or.inr ⟨rfl, Or.inr ⟨_, rfl⟩⟩)
  | n + 75, h => absurd h (by omega)
theorem pm_cls {ci : Nat} (h : ci < 9) : vwCl[ci]? = some (pm_os ci, pm_T ci, pm_nf ci) ∧ (∀ w ∈ u_ws (pm_os ci) (pm_T ci) (pm_nf ci), w ∈ pm_tb) ∧ (∀ k, k < pm_nf ci → parseFieldDescriptor (pm_T ci k).2.2.1 = some (pm_ty ci k)) ∧ (∀ a, a < pm_nf ci → ∀ b, b < pm_nf ci → a ≠ b → (pm_T ci a).2.1 ≠ (pm_T ci b).2.1) ∧ Cond.instantiable (pm_os ci) (pm_nf ci) ∈ pm_tb ∧ Cond.initialized (pm_os ci) ∈ pm_tb ∧
    (∀ k, k < pm_nf ci → (pm_kd ci k = 0 ∧ pm_ty ci k = .int) ∨ (pm_kd ci k = 1 ∧ pm_ty ci k = .boolean) ∨ (pm_kd ci k = 2 ∧ ((∃ n, pm_ty ci k = .object n) ∨ ∃ t, pm_ty ci k = .array t))) := by
  match ci, h with
  | 0, _ => exact ⟨rfl, pm_u0, tyX0_ok, nmX0, pm_i0.1, pm_i0.2, pm_k0⟩
  | 1, _ => exact ⟨rfl, pm_u1, tyX1_ok, nmX1, pm_i1.1, pm_i1.2, pm_k1⟩
  | 2, _ => exact ⟨rfl, pm_u2, tyX2_ok, nmX2, pm_i2.1, pm_i2.2, pm_k2⟩
  | 3, _ => exact ⟨rfl, pm_u3, tyX3_ok, nmX3, pm_i3.1, pm_i3.2, pm_k3⟩
  | 4, _ => exact ⟨rfl, pm_u4, tyX4_ok, nmX4, pm_i4.1, pm_i4.2, pm_k4⟩
  | 5, _ => exact ⟨rfl, pm_u5, tyX5_ok, nmX5, pm_i5.1, pm_i5.2, pm_k5⟩
  | 6, _ => exact ⟨rfl, pm_u6, tyX6_ok, nmX6, pm_i6.1, pm_i6.2, pm_k6⟩
  | 7, _ => exact ⟨rfl, pm_u7, tyX7_ok, nmX7, pm_i7.1, pm_i7.2, pm_k7⟩
  | 8, _ => exact ⟨rfl, pm_u8, tyX8_ok, nmX8, pm_i8.1, pm_i8.2, pm_k8⟩
  | n + 9, h => omega

set_option maxRecDepth 1000000 in
theorem pm_cw0 : pm_ms0.map (fun q => Cond.code q.2.1 q.2.2.1 q.2.2.2.1 q.2.2.2.2.1) = ([162, 846, 874, 850, 854, 857, 866, 312, 654, 650, 684, 671, 705, 714, 725, 733, 754, 772, 758, 763] : List Nat).filterMap (fun i => lw_tbl[i]?) := rfl
set_option maxRecDepth 1000000 in
theorem pm_cw1 : pm_ms1.map (fun q => Cond.code q.2.1 q.2.2.1 q.2.2.2.1 q.2.2.2.2.1) = ([781, 804, 187, 192, 604, 608, 454, 458, 465, 111, 492, 500, 509, 505, 513, 517, 524, 521, 581, 584] : List Nat).filterMap (fun i => lw_tbl[i]?) := rfl
set_option maxRecDepth 1000000 in
theorem pm_cw2 : pm_ms2.map (fun q => Cond.code q.2.1 q.2.2.1 q.2.2.2.1 q.2.2.2.2.1) = ([589, 593, 597, 600, 133, 741, 745, 832, 237, 658, 413, 405, 426, 480, 422, 617, 418, 431, 435, 445] : List Nat).filterMap (fun i => lw_tbl[i]?) := rfl
set_option maxRecDepth 1000000 in
theorem pm_cw3 : pm_ms3.map (fun q => Cond.code q.2.1 q.2.2.1 q.2.2.2.1 q.2.2.2.2.1) = ([449, 625, 629, 634, 676, 688, 696, 792, 462, 324, 823, 895, 904, 916, 101, 389, 409, 469, 476, 484] : List Nat).filterMap (fun i => lw_tbl[i]?) := rfl
set_option maxRecDepth 1000000 in
theorem pm_cw4 : pm_ms4.map (fun q => Cond.code q.2.1 q.2.2.1 q.2.2.2.1 q.2.2.2.2.1) = ([488, 496, 613, 621, 646, 666, 680, 692, 701, 710, 721, 729, 737, 750, 768, 776, 788, 796, 800, 808] : List Nat).filterMap (fun i => lw_tbl[i]?) := rfl
set_option maxRecDepth 1000000 in
theorem pm_cw5 : pm_ms5.map (fun q => Cond.code q.2.1 q.2.2.1 q.2.2.2.1 q.2.2.2.2.1) = ([812, 816, 827, 838, 842, 870, 879, 887, 891, 900, 908, 912, 392, 395, 398, 401, 819, 639, 472, 882] : List Nat).filterMap (fun i => lw_tbl[i]?) := rfl
set_option maxRecDepth 1000000 in
theorem pm_cw6 : pm_ms6.map (fun q => Cond.code q.2.1 q.2.2.1 q.2.2.2.1 q.2.2.2.2.1) = ([784, 922, 1158, 1342, 1178, 1170, 1162, 1330, 1154, 1166, 1182, 1174, 1186, 1190, 1210, 1222, 1218, 1214, 1230, 1226] : List Nat).filterMap (fun i => lw_tbl[i]?) := rfl
set_option maxRecDepth 1000000 in
theorem pm_cw7 : pm_ms7.map (fun q => Cond.code q.2.1 q.2.2.1 q.2.2.2.1 q.2.2.2.2.1) = ([1246, 1250, 1254, 1242, 1238, 1234, 1206, 1202, 1198, 1194, 1290, 1294, 1314, 1318, 1322, 1302, 1298, 1286, 1262, 1274] : List Nat).filterMap (fun i => lw_tbl[i]?) := rfl
set_option maxRecDepth 1000000 in
theorem pm_cw8 : pm_ms8.map (fun q => Cond.code q.2.1 q.2.2.1 q.2.2.2.1 q.2.2.2.2.1) = ([1270, 1266, 1278, 1310, 1282, 1258, 1306, 1338, 1334, 1326, 1351, 1359, 1355, 1347, 1371, 1391, 1387, 1375, 1367, 1383] : List Nat).filterMap (fun i => lw_tbl[i]?) := rfl
set_option maxRecDepth 1000000 in
theorem pm_cw9 : pm_ms9.map (fun q => Cond.code q.2.1 q.2.2.1 q.2.2.2.1 q.2.2.2.2.1) = ([1363, 1379, 1395, 1399, 1403, 1407, 1411, 1415, 1423, 1419, 1427, 1440, 1436, 1431, 1444, 1448, 1452, 1456, 1460, 1464] : List Nat).filterMap (fun i => lw_tbl[i]?) := rfl
set_option maxRecDepth 1000000 in
theorem pm_cw10 : pm_ms10.map (fun q => Cond.code q.2.1 q.2.2.1 q.2.2.2.1 q.2.2.2.2.1) = ([1472, 1476, 1488, 1492, 1484, 1504, 1500, 1496, 1512, 1508, 1480, 1516, 1520, 1524, 1468, 1528, 1536, 1532, 1540, 1544] : List Nat).filterMap (fun i => lw_tbl[i]?) := rfl
set_option maxRecDepth 1000000 in
theorem pm_cw11 : pm_ms11.map (fun q => Cond.code q.2.1 q.2.2.1 q.2.2.2.1 q.2.2.2.2.1) = ([543, 553, 537, 547, 533, 550, 558] : List Nat).filterMap (fun i => lw_tbl[i]?) := rfl
theorem pm_cw_of {ms : List (Nat × MethodName × ByteArray × Nat × Option FieldType × Nat)} {ps : List Nat} (h : ms.map (fun q => Cond.code q.2.1 q.2.2.1 q.2.2.2.1 q.2.2.2.2.1) = ps.filterMap (fun i => lw_tbl[i]?)) : ∀ q ∈ ms, Cond.code q.2.1 q.2.2.1 q.2.2.2.1 q.2.2.2.2.1 ∈ pm_tb := by
  intro q hq
  have h1 : Cond.code q.2.1 q.2.2.1 q.2.2.2.1 q.2.2.2.2.1 ∈ ms.map (fun q => Cond.code q.2.1 q.2.2.1 q.2.2.2.1 q.2.2.2.2.1) := List.mem_map_of_mem hq
  rw [h] at h1
  obtain ⟨i, -, hi⟩ := List.mem_filterMap.mp h1
  exact List.mem_filter.mpr ⟨List.mem_of_getElem? hi, rfl⟩
theorem pm_cw_all : ∀ q ∈ pm_ms, q ∉ pm_msL → Cond.code q.2.1 q.2.2.1 q.2.2.2.1 q.2.2.2.2.1 ∈ pm_tb := by
  intro q hq hL
  unfold pm_ms at hq
  rcases List.mem_append.mp hq with hq | hq
  · exact pm_cw_of pm_cw0 q hq
  rcases List.mem_append.mp hq with hq | hq
  · exact pm_cw_of pm_cw1 q hq
  rcases List.mem_append.mp hq with hq | hq
  · exact pm_cw_of pm_cw2 q hq
  rcases List.mem_append.mp hq with hq | hq
  · exact pm_cw_of pm_cw3 q hq
  rcases List.mem_append.mp hq with hq | hq
  · exact pm_cw_of pm_cw4 q hq
  rcases List.mem_append.mp hq with hq | hq
  · exact pm_cw_of pm_cw5 q hq
  rcases List.mem_append.mp hq with hq | hq
  · exact pm_cw_of pm_cw6 q hq
  rcases List.mem_append.mp hq with hq | hq
  · exact pm_cw_of pm_cw7 q hq
  rcases List.mem_append.mp hq with hq | hq
  · exact pm_cw_of pm_cw8 q hq
  rcases List.mem_append.mp hq with hq | hq
  · exact pm_cw_of pm_cw9 q hq
  rcases List.mem_append.mp hq with hq | hq
  · exact pm_cw_of pm_cw10 q hq
  rcases List.mem_append.mp hq with hq | hq
  · exact pm_cw_of pm_cw11 q hq
  exact absurd hq hL
