abbrev gI : Type := Nat → Nat → Int32
abbrev gJ : Type := Nat → Nat → Int64
theorem g_if_some {c : Prop} [Decidable c] {α : Type} {a : Option α} {r : α} (h : (if c then a else none) = some r) : c ∧ a = some r := by
  by_cases q : c
  · rw [if_pos q] at h
    exact ⟨q, h⟩
  · rw [if_neg q] at h
    cases h
theorem g_neT {x y : Int32} (h : ¬ x = y) : x.toInt ≠ y.toInt := fun q => h (Int32.toInt_inj.mp q)
theorem g_b_dec {x : Int32} (h : x = 0 ∨ x = 1) : g_b (decide (x = 1)) = x := by
  rcases h with rfl | rfl <;> decide
/-- a row's first N places from another row; from a static row -/
def g_cp {α : Type} (f : Nat → Nat → α) (src dst N : Nat) : Nat → Nat → α := fun b => if b = dst then (fun j => if j < N then f src j else f dst j) else f b
def g_cs (f : gI) (i dst N : Nat) : gI := fun b => if b = dst then (fun j => if j < N then g_sf i j else f dst j) else f b
def g_klen (w : Nat) : Int32 := Int32.ofNat (g_kb w).length
def g_kch (w : Nat) (i : Int32) : Int32 := (g_kb w).getD i.toNatClampNeg 0
section GX
variable {μ : gMeth} {d mc ms : Nat} {post : gPost} {nc ns : Nat} {M : gMem} {al : List (Option Value)} {pc : Nat} {st : List Value}
theorem g_ad_f (E : gE) (i : Nat) : g_ad E (1000000 + i) = E.2.2.2 i := by
  unfold g_ad
  rw [if_neg (by omega), Nat.add_sub_cancel_left]
theorem G_gets {idx : Nat} (i : Nat) (hd : decode μ.2.1 pc = .ok (.getstatic idx, 3)) (hi : i < 4) (hl : Cond.fieldLink μ.1.cls idx (g_sC i) (g_sn i) "[I" ∈ g_tb) (k : G μ d mc ms post nc ns M al (pc + 3) (.ref (1000000 + i) :: st)) : G μ d mc ms post nc ns M al pc st := by
  intro E p l e R s m args below meth c H locs ls hC hH hL
  have hF := (hC.2.2.2.2.2.2.2.2.2.2.1 i hi).1
  have kk := k E p l e R s m args below meth c H locs ls hC hH hL
  simp only [List.map_cons, g_v, g_ad_f] at kk
  exact va_gets hC.1 hC.2.1 hF hH.2.2.2.1 hC.2.2.2.2.1 (hC.2.2.2.2.2.1 _ hl) (fun _ h => h) hd kk
theorem G_tald {j : Int32} (i : Nat) (hd : decode μ.2.1 pc = .ok (.iaload, 1)) (hi : i < 4) (hin : vp_in j (g_sl i).length) (k : G μ d mc ms post nc ns M al (pc + 1) (.int (g_sf i j.toNatClampNeg) :: st)) : G μ d mc ms post nc ns M al pc (.int j :: .ref (1000000 + i) :: st) := by
  intro E p l e R s m args below meth c H locs ls hC hH hL
  have hF := (hC.2.2.2.2.2.2.2.2.2.2.1 i hi).2
  have kk := k E p l e R s m args below meth c H locs ls hC hH hL
  simp only [List.map_cons, g_v, g_ad_f]
  exact va_ti hC.1 hC.2.1 hF hH.2.2.2.1 hin rfl hd kk
theorem G_ldcS {idx : Nat} (w : Nat) (hd : decode μ.2.1 pc = .ok (.ldc idx, 2)) (hw : w < 18) (h1 : g_kC w = μ.1.cls) (h2 : g_kE w = idx) (k : G μ d mc ms post nc ns M al (pc + 2) (.ref (1000010 + w) :: st)) : G μ d mc ms post nc ns M al pc st := by
  intro E p l e R s m args below meth c H locs ls hC hH hL
  have hF := hC.2.2.2.2.2.2.2.2.2.2.2.1.2.1 w hw
  rw [h1, h2] at hF
  have kk := k E p l e R s m args below meth c H locs ls hC hH hL
  simp only [List.map_cons, g_v, show 1000010 + w = 1000000 + (10 + w) by omega, g_ad_f] at kk
  exact va_ldcS hC.1 hC.2.1 hC.2.2.2.2.1 hF hd kk
end GX
theorem st_X6_15 : Cond.fieldLink RX6 15 (g_sC 0) (g_sn 0) "[I" ∈ g_tb := g_tb_of (List.mem_of_getElem? (i := 196) (by decide +kernel)) (by decide +kernel)
theorem st_X3_15 : Cond.fieldLink RX3 15 (g_sC 3) (g_sn 3) "[I" ∈ g_tb := g_tb_of (List.mem_of_getElem? (i := 246) (by decide +kernel)) (by decide +kernel)
theorem st_X6_84 : Cond.fieldLink RX6 84 (g_sC 1) (g_sn 1) "[I" ∈ g_tb := g_tb_of (List.mem_of_getElem? (i := 673) (by decide +kernel)) (by decide +kernel)
theorem st_X6_87 : Cond.fieldLink RX6 87 (g_sC 2) (g_sn 2) "[I" ∈ g_tb := g_tb_of (List.mem_of_getElem? (i := 675) (by decide +kernel)) (by decide +kernel)
section GMath
variable {μ : gMeth} {d mc ms : Nat} {post : gPost} {nc ns : Nat} {M : gMem} {al : List (Option Value)} {pc : Nat} {st : List Value}
theorem g_cats (E : gE) (st : List Value) : ((st.map (g_v E)).map fun v => v.category).sum = (st.map fun v => v.category).sum := by simp [Function.comp_def, g_v_cat]
theorem mx_code : Cond.code Lib.Math.max.name Lib.Math.max.code 2 (some .int) ∈ g_tb := mt_J9_max_7cf53.2.2.1
theorem mn_code : Cond.code Lib.Math.min.name Lib.Math.min.code 2 (some .int) ∈ g_tb := mt_J9_min_7cf53.2.2.1
theorem ml_code : Cond.code Lib.MathLoose.max_long.x Lib.MathLoose.max_long.code 4 (some .long) ∈ g_tb := mt_J9_max_f86c9.2.2.1
theorem G_mmax {idx : Nat} {x y : Int32} (hd : decode μ.2.1 pc = .ok (.invokestatic idx, 3)) (hl : Cond.methodLink μ.1.cls idx yJ9_max_7cf53 ∈ g_tb ∧ Cond.static yJ9_max_7cf53 ∈ g_tb) (hn : nc ≤ mc ∧ ns ≤ ms) (hr : (st.map fun v => v.category).sum ≤ 8) (k : G μ d mc ms post nc ns M al (pc + 3) (.int (if x < y then y else x) :: st)) : G μ d mc ms post nc ns M al pc (.int y :: .int x :: st) := by
  intro E p l e R s m args below meth c H locs ls hC hH hL
  have hts := hC.2.2.2.2.2.1
  have hR := hC.2.2.2.2.2.2.2.2.1
  exact va_mmax hC.1 hC.2.1 (by rw [hC.2.2.2.1]; exact hL.1.symm) hC.2.2.2.2.1 (hts _ hl.1) (hts _ hl.2) (hts _ mt_J9_max_7cf53.2.1) (hts _ mx_code) (by rw [hR]; simp only [g_room]; omega) (by rw [hR, g_cats]; simp only [g_room]; omega) (by rw [hR]; exact hn.1) (by rw [hR]; exact hn.2) hd (k E p l e R s m args below meth c H locs ls hC hH hL)
theorem G_mmin {idx : Nat} {x y : Int32} (hd : decode μ.2.1 pc = .ok (.invokestatic idx, 3)) (hl : Cond.methodLink μ.1.cls idx yJ9_min_7cf53 ∈ g_tb ∧ Cond.static yJ9_min_7cf53 ∈ g_tb) (hn : nc ≤ mc ∧ ns ≤ ms) (hr : (st.map fun v => v.category).sum ≤ 8) (k : G μ d mc ms post nc ns M al (pc + 3) (.int (if y < x then y else x) :: st)) : G μ d mc ms post nc ns M al pc (.int y :: .int x :: st) := by
  intro E p l e R s m args below meth c H locs ls hC hH hL
  have hts := hC.2.2.2.2.2.1
  have hR := hC.2.2.2.2.2.2.2.2.1
  exact va_mmin hC.1 hC.2.1 (by rw [hC.2.2.2.1]; exact hL.1.symm) hC.2.2.2.2.1 (hts _ hl.1) (hts _ hl.2) (hts _ mt_J9_max_7cf53.2.1) (hts _ mn_code) (by rw [hR]; simp only [g_room]; omega) (by rw [hR, g_cats]; simp only [g_room]; omega) (by rw [hR]; exact hn.1) (by rw [hR]; exact hn.2) hd (k E p l e R s m args below meth c H locs ls hC hH hL)
theorem G_lmax {idx : Nat} {x y : Int64} (hd : decode μ.2.1 pc = .ok (.invokestatic idx, 3)) (hl : Cond.methodLink μ.1.cls idx yJ9_max_f86c9 ∈ g_tb ∧ Cond.static yJ9_max_f86c9 ∈ g_tb) (hn : nc ≤ mc ∧ ns ≤ ms) (hr : (st.map fun v => v.category).sum ≤ 8) (k : G μ d mc ms post nc ns M al (pc + 3) (.long (if y < x then x else y) :: st)) : G μ d mc ms post nc ns M al pc (.long y :: .long x :: st) := by
  intro E p l e R s m args below meth c H locs ls hC hH hL
  have hts := hC.2.2.2.2.2.1
  have hR := hC.2.2.2.2.2.2.2.2.1
  exact va_mmax_long hC.1 hC.2.1 (by rw [hC.2.2.2.1]; exact hL.1.symm) hC.2.2.2.2.1 (hts _ hl.1) (hts _ hl.2) (hts _ mt_J9_max_7cf53.2.1) (hts _ ml_code) (by rw [hR]; simp only [g_room]; omega) (by rw [hR, g_cats]; simp only [g_room]; omega) (by rw [hR]; exact hn.1) (by rw [hR]; exact hn.2) hd (k E p l e R s m args below meth c H locs ls hC hH hL)
end GMath
