/-! what the Statement gives at the start -/
abbrev g_nar : List Cond := flatC (Jvm.Cond.and given_1 narrow_1)
abbrev g_st (i : Nat) : Term := .static (g_sC i) (g_sn i) "[I"
abbrev g_tm (i : Nat) : Term := .string (g_kC i) (g_kE i)
theorem n_arr : ∀ i, i < 4 → Cond.arrayOf (g_st i) .int ∈ g_nar := by decide +kernel
theorem n_len : ∀ i, i < 4 → Cond.eq (.length (g_st i)) (.int (Int32.ofNat (g_sl i).length)) ∈ g_nar := by decide +kernel
theorem n_el : ∀ i, i < 4 → ∀ j, j < (g_sl i).length → Cond.eq (.elem (g_st i) (.int (Int32.ofNat j))) (.int (g_sf i j)) ∈ g_nar := by decide +kernel
theorem n_ls : ∀ i, i < 4 → Cond.laysStatic (g_sC i) (g_sn i) "[I" ∈ lw_tbl := by decide +kernel
theorem n_in : ∀ i, i < 4 → Cond.initialized (g_sC i) ∈ lw_tbl := by decide +kernel
theorem n_cs : Cond.eq (.static RJ0 "COMPACT_STRINGS" "Z") (.int 1) ∈ g_nar := by decide +kernel
theorem n_cl : Cond.laysStatic RJ0 "COMPACT_STRINGS" "Z" ∈ lw_tbl ∧ Cond.initialized RJ0 ∈ lw_tbl := ⟨by decide +kernel, by decide +kernel⟩
theorem n_sf : Cond.isRef (.static RJ3 "SIOOBE_FORMATTER" "Ljava/util/function/BiFunction;") ∈ g_nar := by decide +kernel
theorem n_sl : Cond.laysStatic RJ3 "SIOOBE_FORMATTER" "Ljava/util/function/BiFunction;" ∈ lw_tbl ∧ Cond.initialized RJ3 ∈ lw_tbl := ⟨by decide +kernel, by decide +kernel⟩
theorem n_ex : ∀ i, i < 18 → Cond.exactly (g_tm i) "java/lang/String" ∈ g_nar := by decide +kernel
theorem n_co : ∀ i, i < 18 → Cond.eq (.field (g_tm i) "java/lang/String" "coder" "B") (.int 0) ∈ g_nar := by decide +kernel
theorem n_ar : ∀ i, i < 18 → Cond.arrayOf (.field (g_tm i) "java/lang/String" "value" "[B") .byte ∈ g_nar := by decide +kernel
theorem n_le : ∀ i, i < 18 → Cond.eq (.length (.field (g_tm i) "java/lang/String" "value" "[B")) (.int (Int32.ofNat (g_kls.getD i 0))) ∈ g_nar := by decide +kernel
theorem n_sel : ∀ i, i < 18 → ∀ j, j < g_kls.getD i 0 → Cond.eq (.elem (.field (g_tm i) "java/lang/String" "value" "[B") (.int (Int32.ofNat j))) (.int ((g_kbs.getD i []).getD j 0)) ∈ g_nar := by decide +kernel
theorem n_sr : ∀ i, i < 18 → Cond.stringRef (g_kC i) (g_kE i) (g_kT i) ∈ lw_tbl := by decide +kernel
theorem n_ns : ∀ w ∈ g_nest, w ∈ lw_tbl := by decide +kernel
theorem n_ao : Cond.arrayOver (.object RX2) ∈ lw_tbl ∧ Cond.arrayOver (.object RX6) ∈ lw_tbl ∧ Cond.arrayOver (.object RX4) ∈ lw_tbl ∧ Cond.arrayOver (.array .int) ∈ lw_tbl := ⟨by decide +kernel, by decide +kernel, by decide +kernel, by decide +kernel⟩
theorem n_kl : ∀ i, i < 18 → g_kls.getD i 0 < 2 ^ 31 := by decide +kernel
theorem n_inst : ∀ ci, ci < 11 → Cond.instantiable (g_R ci) (g_N ci) ∈ g_tb ∧ Cond.initialized (g_R ci) ∈ g_tb := g_11 in_X0 in_X1 in_X2 in_X3 in_X4 in_X5 in_X6 in_X7 in_X8 in_X9 in_X10
def g_isne (w : Cond) : Bool := match w with
  | .not (.eq (.string ..) (.string ..)) => true
  | _ => false
theorem n_neL : g_nar.filter g_isne = (List.range 18).flatMap (fun j => (List.range j).map (fun i => Cond.not (Cond.eq (g_tm i) (g_tm j)))) := by decide +kernel
theorem n_ne0 (i j : Nat) (h : i < j) (hj : j < 18) : Cond.not (Cond.eq (g_tm i) (g_tm j)) ∈ g_nar := by
  have e : Cond.not (Cond.eq (g_tm i) (g_tm j)) ∈ g_nar.filter g_isne := by
    rw [n_neL]
    exact List.mem_flatMap.mpr ⟨j, List.mem_range.mpr hj, List.mem_map.mpr ⟨i, List.mem_range.mpr h, rfl⟩⟩
  exact (List.mem_filter.mp e).1
theorem n_ne (i j : Nat) (hi : i < 18) (hj : j < 18) (hne : i ≠ j) : Cond.not (Cond.eq (g_tm i) (g_tm j)) ∈ g_nar ∨ Cond.not (Cond.eq (g_tm j) (g_tm i)) ∈ g_nar := by
  rcases Nat.lt_or_gt_of_ne hne with h | h
  · exact Or.inl (n_ne0 i j h hj)
  · exact Or.inr (n_ne0 j i h hi)
