/-! all further steps are sound -/
theorem xM0 : Cond.initialized "java/lang/Math" ∈ gw := List.mem_filter.mpr ⟨List.mem_append_right _ (by decide +kernel), by decide +kernel⟩
theorem xM1 : Cond.static Lib.Math.max.name ∈ gw := List.mem_filter.mpr ⟨List.mem_append_right _ (by decide +kernel), by decide +kernel⟩
theorem xM2 : Cond.static Lib.Math.min.name ∈ gw := List.mem_filter.mpr ⟨List.mem_append_right _ (by decide +kernel), by decide +kernel⟩
theorem xM3 : Cond.static Lib.Math.abs.name ∈ gw := List.mem_filter.mpr ⟨List.mem_append_right _ (by decide +kernel), by decide +kernel⟩
theorem xM4 : Cond.static Lib.MathLoose.max_long.x ∈ gw := List.mem_filter.mpr ⟨List.mem_append_right _ (by decide +kernel), by decide +kernel⟩
theorem xM5 : Cond.code Lib.Math.max.name Lib.Math.max.code 2 (some .int) ∈ gw := List.mem_filter.mpr ⟨List.mem_append_right _ (by decide +kernel), by decide +kernel⟩
theorem xM6 : Cond.code Lib.Math.min.name Lib.Math.min.code 2 (some .int) ∈ gw := List.mem_filter.mpr ⟨List.mem_append_right _ (by decide +kernel), by decide +kernel⟩
theorem xM7 : Cond.code Lib.Math.abs.name Lib.Math.abs.code 1 (some .int) ∈ gw := List.mem_filter.mpr ⟨List.mem_append_right _ (by decide +kernel), by decide +kernel⟩
theorem xM8 : Cond.code Lib.MathLoose.max_long.x Lib.MathLoose.max_long.code 4 (some .long) ∈ gw := List.mem_filter.mpr ⟨List.mem_append_right _ (by decide +kernel), by decide +kernel⟩
theorem xC1 : Cond.native yCpy ∈ gw := List.mem_filter.mpr ⟨List.mem_append_right _ (by decide +kernel), by decide +kernel⟩
theorem xC2 : Cond.static yCpy ∈ gw := List.mem_filter.mpr ⟨List.mem_append_right _ (by decide +kernel), by decide +kernel⟩
theorem xC3 : Cond.initialized "java/lang/System" ∈ gw := List.mem_filter.mpr ⟨List.mem_append_right _ (by decide +kernel), by decide +kernel⟩
theorem xsT_ok {n : Nat} {aC aM ad : Nat → Nat} (had : pm_ad aM ad) : pm_okX (xsT n) mtb n aC aM ad := by
  intro d k me p l e s m args below meth c Q g A a b _ F h hk
  rcases h with h | h | h | h | ⟨h4, h⟩ | h
  · exact px_max_ok F xM1 xM0 xM5 h hk
  · exact px_min_ok F xM2 xM0 xM6 h hk
  · exact px_abs_ok F xM3 xM0 xM7 h hk
  · exact px_maxL_ok F xM4 xM0 xM8 h hk
  · exact px_idx_ok F (had 4 (by decide)) h4 h hk
  · exact px_cpy_ok F xC1 xC2 xC3 h hk
