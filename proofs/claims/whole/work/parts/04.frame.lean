/-! THE FRAME: a state of the system as tables (kinds, ints, longs, references by handle and place); G, a point of a method's walk over such tables; gMet, a method's contract over them -/
abbrev gK : Type := Nat ⊕ (Nat × Nat)
abbrev gMem : Type := (Nat → gK) × (Nat → Nat → Int32) × (Nat → Nat → Int64) × (Nat → Nat → Option Nat) × Nat
abbrev gE : Type := va_G × (Nat → ClassId) × Nat × (Nat → Nat)
abbrev gMeth : Type := MethodName × ByteArray × Nat × Option FieldType
def g_ad (E : gE) (k : Nat) : Nat := if k < 1000000 then E.2.2.1 + k else E.2.2.2 (k - 1000000)
def g_v (E : gE) : Value → Value
  | .ref k => .ref (g_ad E k)
  | v => v
def g_ty (ci : Nat) : Nat → FieldType := match ci with
  | 0 => tyX0
  | 1 => tyX1
  | 2 => tyX2
  | 3 => tyX3
  | 4 => tyX4
  | 5 => tyX5
  | 6 => tyX6
  | 7 => tyX7
  | 8 => tyX8
  | 9 => tyX9
  | _ => tyX10
def g_T (ci : Nat) : u_T := match ci with
  | 0 => TX0
  | 1 => TX1
  | 2 => TX2
  | 3 => TX3
  | 4 => TX4
  | 5 => TX5
  | 6 => TX6
  | 7 => TX7
  | 8 => TX8
  | 9 => TX9
  | _ => TX10
def g_R (ci : Nat) : String := match ci with
  | 0 => RX0
  | 1 => RX1
  | 2 => RX2
  | 3 => RX3
  | 4 => RX4
  | 5 => RX5
  | 6 => RX6
  | 7 => RX7
  | 8 => RX8
  | 9 => RX9
  | _ => RX10
def g_N (ci : Nat) : Nat := match ci with
  | 0 => 11
  | 1 => 2
  | 2 => 10
  | 3 => 5
  | 4 => 10
  | 5 => 3
  | 6 => 2
  | 7 => 6
  | 8 => 5
  | 9 => 8
  | _ => 46
theorem g_11 {P : Nat → Prop} (h0 : P 0) (h1 : P 1) (h2 : P 2) (h3 : P 3) (h4 : P 4) (h5 : P 5) (h6 : P 6) (h7 : P 7) (h8 : P 8) (h9 : P 9) (h10 : P 10) : ∀ ci, ci < 11 → P ci := by
  intro ci h
  match ci, h with
  | 0, _ => exact h0
  | 1, _ => exact h1
  | 2, _ => exact h2
  | 3, _ => exact h3
  | 4, _ => exact h4
  | 5, _ => exact h5
  | 6, _ => exact h6
  | 7, _ => exact h7
  | 8, _ => exact h8
  | 9, _ => exact h9
  | 10, _ => exact h10
  | k + 11, h => omega
theorem g_cl : ∀ ci, ci < 11 → vwCl[ci]? = some (g_R ci, g_T ci, g_N ci) := g_11 rfl rfl rfl rfl rfl rfl rfl rfl rfl rfl rfl
theorem g_tyok : ∀ ci, ci < 11 → ∀ k, k < g_N ci → parseFieldDescriptor (g_T ci k).2.2.1 = some (g_ty ci k) := g_11 tyX0_ok tyX1_ok tyX2_ok tyX3_ok tyX4_ok tyX5_ok tyX6_ok tyX7_ok tyX8_ok tyX9_ok tyX10_ok
theorem g_nm : ∀ ci, ci < 11 → ∀ a, a < g_N ci → ∀ b, b < g_N ci → a ≠ b → (g_T ci a).2.1 ≠ (g_T ci b).2.1 := g_11 nmX0 nmX1 nmX2 nmX3 nmX4 nmX5 nmX6 nmX7 nmX8 nmX9 nmX10
def g_tb : List Cond := lw_tbl.filter goodWord
theorem g_tb_of {w : Cond} (h : w ∈ lw_tbl) (hg : goodWord w = true) : w ∈ g_tb := List.mem_filter.mpr ⟨h, hg⟩
theorem g_tb_in {w : Cond} (h : w ∈ g_tb) : w ∈ lw_tbl := (List.mem_filter.mp h).1
theorem g_lay_good (C : String) (T : u_T) (k : Nat) : goodWord (u_lay C T k) = true := by
  unfold u_lay
  split <;> rfl
theorem g_inT : ∀ ci, ci < 11 → ∀ w ∈ u_ws (g_R ci) (g_T ci) (g_N ci), w ∈ g_tb := by
  have h : ∀ ci, ci < 11 → ∀ w ∈ u_ws (g_R ci) (g_T ci) (g_N ci), w ∈ lw_tbl := g_11 inX0 inX1 inX2 inX3 inX4 inX5 inX6 inX7 inX8 inX9 inX10
  intro ci hci w hw
  refine g_tb_of (h ci hci w hw) ?_
  obtain ⟨k, -, rfl⟩ := List.mem_map.mp hw
  exact g_lay_good _ _ _
theorem g_good {ws : List Cond} (h : ∀ w ∈ ws, w ∈ g_tb) : GoodIn g_tb ws := fun w hw => ⟨h w hw, good_of_word (List.mem_filter.mp (h w hw)).2⟩
/-- the array kinds -/
def g_el (t : Nat) : FieldType := match t with
  | 0 => .int
  | 1 => .boolean
  | 2 => .long
  | 3 => .object RX2
  | 4 => .object RX6
  | 5 => .object RX4
  | _ => .array .int
def g_tys (E : gE) : List (ClassId × FieldType) := (List.range 7).map (fun t => (E.2.1 t, g_el t))
theorem g_tys_at (E : gE) {t : Nat} (h : t < 7) : (g_tys E)[t]? = some (E.2.1 t, g_el t) := by
  unfold g_tys
  rw [List.getElem?_map, List.getElem?_range h]
  rfl
def g_fv (E : gE) (M : gMem) (a : Nat) (ty : FieldType) (k : Nat) : Value := match ty with
  | .long => .long (M.2.2.1 a k)
  | .object _ => va_rf ((M.2.2.2.1 a k).map (g_ad E))
  | .array _ => va_rf ((M.2.2.2.1 a k).map (g_ad E))
  | _ => .int (M.2.1 a k)
def g_arr (E : gE) (M : gMem) (a : Nat) (t : Nat) : (Nat → Int32) ⊕ (Nat → Int64) ⊕ (Nat → UInt32) ⊕ (Nat → UInt64) ⊕ (Nat → Option Nat) := match t with
  | 0 => .inl (M.2.1 a)
  | 1 => .inl (M.2.1 a)
  | 2 => .inr (.inl (M.2.2.1 a))
  | _ => .inr (.inr (.inr (.inr (fun j => (M.2.2.2.1 a j).map (g_ad E)))))
def g_fs (E : gE) (M : gMem) (a ci : Nat) : List Value := (List.range (g_N ci)).map (fun k => g_fv E M a (g_ty ci k) k)
def g_cell (E : gE) (M : gMem) (a : Nat) : va_E := match M.1 a with
  | .inl ci => .inr (ci, g_fs E M a ci)
  | .inr (t, n) => .inl (E.2.1 t, n, g_arr E M a t)
def g_w (E : gE) (M : gMem) : va_W := (List.range M.2.2.2.2).map (fun a => (g_ad E a, g_cell E M a))
theorem g_w_at {E : gE} {M : gMem} {a : Nat} (h : a < M.2.2.2.2) : (g_w E M)[a]? = some (g_ad E a, g_cell E M a) := by
  unfold g_w
  rw [List.getElem?_map, List.getElem?_range h]
  rfl
theorem g_w_of {E : gE} {M : gMem} {k : Nat} {q : Nat × va_E} (h : (g_w E M)[k]? = some q) : k < M.2.2.2.2 ∧ q = (g_ad E k, g_cell E M k) := by
  have hk : k < M.2.2.2.2 := by
    have := (List.getElem?_eq_some_iff.mp h).1
    simpa [g_w] using this
  refine ⟨hk, ?_⟩
  rw [g_w_at hk] at h
  exact (Option.some.inj h).symm
def g_A (E : gE) : Nat → Prop := fun q => E.2.2.1 ≤ q
theorem g_w_D {E : gE} {M : gMem} (hn : M.2.2.2.2 ≤ 1000000) : va_D (g_A E) (g_w E M) := by
  refine ⟨fun i j p q hi hj hpq => ?_, fun k q hq => ?_⟩
  · obtain ⟨h1, rfl⟩ := g_w_of hi
    obtain ⟨h2, rfl⟩ := g_w_of hj
    have e : g_ad E i = g_ad E j := hpq
    unfold g_ad at e
    rw [if_pos (by omega), if_pos (by omega)] at e
    omega
  · obtain ⟨h1, rfl⟩ := g_w_of hq
    show E.2.2.1 ≤ g_ad E k
    unfold g_ad
    rw [if_pos (by omega)]
    omega
theorem g_w_set {E : gE} {M M' : gMem} {a : Nat} {e : va_E} (hn : M'.2.2.2.2 = M.2.2.2.2) (he : g_cell E M' a = e) (ho : ∀ b, b ≠ a → g_cell E M' b = g_cell E M b) : (g_w E M).set a (g_ad E a, e) = g_w E M' := by
  apply List.ext_getElem?
  intro i
  rw [List.getElem?_set]
  by_cases hi : i < M.2.2.2.2
  · rw [g_w_at (M := M') (by omega), g_w_at hi]
    by_cases ha : a = i
    · subst ha
      have hl : a < (g_w E M).length := by simpa [g_w] using hi
      rw [if_pos rfl, if_pos hl, he]
    · rw [if_neg ha, ho i (fun q => ha q.symm)]
  · have h1 : (g_w E M)[i]? = none := List.getElem?_eq_none (by simp [g_w]; omega)
    have h2 : (g_w E M')[i]? = none := List.getElem?_eq_none (by simp [g_w]; omega)
    rw [h1, h2]
    by_cases ha : a = i
    · subst ha
      have hl : ¬ a < (g_w E M).length := by simpa [g_w] using hi
      rw [if_pos rfl, if_neg hl]
    · rw [if_neg ha]
theorem g_w_push {E : gE} {M M' : gMem} {e : va_E} (hn : M'.2.2.2.2 = M.2.2.2.2 + 1) (he : g_cell E M' M.2.2.2.2 = e) (ho : ∀ b, b < M.2.2.2.2 → g_cell E M' b = g_cell E M b) : g_w E M ++ [(g_ad E M.2.2.2.2, e)] = g_w E M' := by
  unfold g_w
  rw [hn, List.range_succ, List.map_append]
  congr 1
  · apply List.map_congr_left
    intro b hb
    rw [ho b (List.mem_range.mp hb)]
  · simp [he]
/-- one place of one table -/
def g_u {α : Type} (f : Nat → Nat → α) (a k : Nat) (x : α) : Nat → Nat → α := fun b => if b = a then (fun j => if j = k then x else f a j) else f b
theorem g_u_self {α : Type} (f : Nat → Nat → α) (a k : Nat) (x : α) : g_u f a k x a = fun j => if j = k then x else f a j := by simp [g_u]
theorem g_u_ne {α : Type} (f : Nat → Nat → α) {a b : Nat} (k : Nat) (x : α) (h : b ≠ a) : g_u f a k x b = f b := by simp [g_u, h]
def g_room (d mc ms : Nat) : Room := { frames := d + 1, cells := mc, slots := ms, locals := 33 * d + 80 }
def g_ws (μ : gMeth) : List Cond := .code μ.1 μ.2.1 μ.2.2.1 μ.2.2.2 :: g_tb
/-! what was there before the law began: static rows, String constants, links of nest mates -/
def g_nest : List Cond := [.methodLinkNest RX1 20 yX9_within RX9, .methodLinkNest RX2 52 yX9_wholeRoot RX9, .methodLinkNest RX1 45 yX9_asNumber RX9, .methodLinkNest RX0 53 yX9_asNumber RX9, .methodLinkNest RX8 28 yX9_within RX9, .methodLinkNest RX6 90 yX9_within RX9, .methodLinkNest RX7 98 yX9_asNumber RX9, .methodLinkNest RX7 119 yX9_compareSums RX9, .methodLinkNest RX3 34 yX9_within RX9, .methodLinkNest RX0 46 yX9_within RX9]
def g_isN (w : Cond) : Bool := match w with
  | .methodLinkNest .. => true
  | _ => false
theorem g_nest_N : ∀ w ∈ g_nest, g_isN w = true := by decide +kernel
theorem g_Nw_warm {w : Cond} (hw : g_isN w = true) {s U : State} (hW : s.WarmedH U.vm) (h : va_Nw w s) : va_Nw w U := by
  cases w <;> first | exact va_Nw.warmM hW h | (exact absurd hw (by simp [g_isN]))
theorem g_Nw_same {w : Cond} (hw : g_isN w = true) {s U : State} (hv : s.vm = U.vm) (h : va_Nw w s) : va_Nw w U := by
  cases w <;> first | exact va_Nw.same rfl hv h | (exact absurd hw (by simp [g_isN]))
/-- the static rows: class, name, length, contents -/
def g_sC (i : Nat) : String := match i with
  | 3 => RX3
  | _ => RX6
def g_sn (i : Nat) : String := match i with
  | 1 => "LEAST"
  | 2 => "GREATEST"
  | _ => "AT_FIRST"
def g_sl (i : Nat) : List Int32 := match i with
  | 0 => [2, 1, 12, 0, 21, 1, 1, 1]
  | 1 => [0, 0, 1, 0, 1]
  | 2 => [9, 9, 12, 20, 99]
  | _ => [0, 10, 20, 20, 10, 0, 0, 40, 20, 0, 20, 0, 10, 0, 30]
def g_sf (i : Nat) : Nat → Int32 := fun j => (g_sl i).getD j 0
/-- the String constants: class, entry, text -/
def g_kC (i : Nat) : String := if i < 13 then RX6 else RX5
def g_kE (i : Nat) : Nat := if i < 13 then 111 + 2 * i else 71 + 2 * (i - 13)
def g_kT (i : Nat) : String := match i with
  | 0 => "ringer"
  | 1 => "near"
  | 2 => "most"
  | 3 => "measure"
  | 4 => "game"
  | 5 => "cancel"
  | 6 => "down"
  | 7 => "under"
  | 8 => "none"
  | 9 => "pairs"
  | 10 => "top"
  | 11 => "yes"
  | 12 => "no"
  | 13 => "table"
  | 14 => "won"
  | 15 => "diff"
  | 16 => "for"
  | _ => "met"
def g_kb (i : Nat) : List Int32 := match i with
  | 0 => [114, 105, 110, 103, 101, 114]
  | 1 => [110, 101, 97, 114]
  | 2 => [109, 111, 115, 116]
  | 3 => [109, 101, 97, 115, 117, 114, 101]
  | 4 => [103, 97, 109, 101]
  | 5 => [99, 97, 110, 99, 101, 108]
  | 6 => [100, 111, 119, 110]
  | 7 => [117, 110, 100, 101, 114]
  | 8 => [110, 111, 110, 101]
  | 9 => [112, 97, 105, 114, 115]
  | 10 => [116, 111, 112]
  | 11 => [121, 101, 115]
  | 12 => [110, 111]
  | 13 => [116, 97, 98, 108, 101]
  | 14 => [119, 111, 110]
  | 15 => [100, 105, 102, 102]
  | 16 => [102, 111, 114]
  | _ => [109, 101, 116]
def g_kbs : List (List Int32) := (List.range 18).map g_kb
def g_kls : List Nat := (List.range 18).map (fun i => (g_kb i).length)
def g_isA (comp : ClassId) (x : Class) : Bool := match x.kind with
  | .array component _ => component == comp
  | _ => false
theorem g_idx_bare (vm : Vm) (comp : ClassId) : vm.bare.classes.findIdx? (g_isA comp) = vm.classes.findIdx? (g_isA comp) := by
  simp only [Vm.bare, Array.findIdx?_map]
  rfl
def g_AOA (U : State) : Prop := ∃ comp c k, U.vm.findClass (FieldType.array .int).toString = some comp ∧ U.vm.classes.findIdx? (g_isA comp) = some c ∧ U.vm.classes[c]? = some k ∧ k.kind = .array comp (.array .int) ∧ U.vm.findClass ("[" ++ (FieldType.array .int).toString) = some c
theorem g_AOA.moved {u U : State} (hvm : u.vm.Alike U.vm) (h : g_AOA u) : g_AOA U := by
  obtain ⟨comp, c, k, h1, h2, h3, h4, h5⟩ := h
  obtain ⟨k', hk', he⟩ := hvm.2.2 _ _ h3
  refine ⟨comp, c, k', by rw [hvm.findClass]; exact h1, ?_, hk', by rw [he]; exact h4, by rw [hvm.findClass]; exact h5⟩
  rw [← g_idx_bare]
  first | rw [hvm.bare_eq] | rw [← hvm.bare_eq]
  rw [g_idx_bare]
  exact h2
def g_F1 (E : gE) (U : State) : Prop := ∀ i : Nat, i < 4 → va_Z (g_sC i) (g_sn i) "[I" (.ref (E.2.2.2 i)) (g_A E) U U.heap ∧ va_T .int (E.2.2.2 i) (g_sl i).length (fun j => .int (g_sf i j)) (g_A E) U U.heap
def g_F2 (E : gE) (U : State) : Prop := vk_S 18 g_kls g_kbs (fun i => E.2.2.2 (10 + i)) (fun i => E.2.2.2 (40 + i)) (g_A E) U U.heap ∧ (∀ i : Nat, i < 18 → vk_R (g_kC i) (g_kE i) (g_kT i) (E.2.2.2 (10 + i)) U) ∧ va_Z RJ0 "COMPACT_STRINGS" "Z" (.int 1) (g_A E) U U.heap ∧ (va_Z RJ3 "SIOOBE_FORMATTER" "Ljava/util/function/BiFunction;" .null (g_A E) U U.heap ∨ va_Z RJ3 "SIOOBE_FORMATTER" "Ljava/util/function/BiFunction;" (.ref (E.2.2.2 99)) (g_A E) U U.heap)
def g_F3 (U : State) : Prop := (∀ w ∈ g_nest, va_Nw w U) ∧ va_AO RX2 U ∧ va_AO RX6 U ∧ va_AO RX4 U ∧ g_AOA U
def g_F (E : gE) (U : State) : Prop := g_F1 E U ∧ g_F2 E U ∧ g_F3 U
theorem g_F.to {E : gE} {s U : State} (hW : s.WarmedH U.vm) (hk : ∀ a : Nat, a < s.heap.size → ¬ g_A E a → U.heap[a]? = s.heap[a]?) (h : g_F E s) : g_F E U := by
  obtain ⟨h1, ⟨h2, h3, h4, h5⟩, h6, h7, h8, h9, h10⟩ := h
  refine ⟨fun i hi => ⟨((h1 i hi).1.moved hW.alike).kept hk, ((h1 i hi).2.moved hW.alike).kept hk⟩, ⟨(h2.moved hW.alike).kept hk, fun i hi => (h3 i hi).warm hW, (h4.moved hW.alike).kept hk, h5.imp (fun z => (z.moved hW.alike).kept hk) (fun z => (z.moved hW.alike).kept hk)⟩, fun w hw => g_Nw_warm (g_nest_N w hw) hW (h6 w hw), h7.moved hW.alike, h8.moved hW.alike, h9.moved hW.alike, h10.moved hW.alike⟩
theorem g_F.same {E : gE} {s U : State} (hv : s.vm = U.vm) (hh : U.heap = s.heap) (h : g_F E s) : g_F E U := by
  have ha : s.vm.Alike U.vm := by rw [hv]; exact Vm.Alike.refl _
  have hk : ∀ a : Nat, a < s.heap.size → ¬ g_A E a → U.heap[a]? = s.heap[a]? := fun a _ _ => by rw [hh]
  obtain ⟨h1, ⟨h2, h3, h4, h5⟩, h6, h7, h8, h9, h10⟩ := h
  refine ⟨fun i hi => ⟨((h1 i hi).1.moved ha).kept hk, ((h1 i hi).2.moved ha).kept hk⟩, ⟨(h2.moved ha).kept hk, fun i hi => (h3 i hi).same hv.symm, (h4.moved ha).kept hk, h5.imp (fun z => (z.moved ha).kept hk) (fun z => (z.moved ha).kept hk)⟩, fun w hw => g_Nw_same (g_nest_N w hw) hv (h6 w hw), h7.moved ha, h8.moved ha, h9.moved ha, h10.moved ha⟩
/-! a point of a walk -/
def g_C (E : gE) (μ : gMeth) (d mc ms : Nat) (p : Program) (R : Room) (s : State) (m : MethodId) (args : Array Value) (meth : Method) (c : Code) : Prop :=
  p.tables.exec = Jvm.exec ∧ c.code = μ.2.1 ∧ meth.sig.returnType = μ.2.2.2 ∧ c.maxLocals = μ.2.2.1 ∧ s.vm.findClass μ.1.cls = some m.cls ∧ (∀ w ∈ g_tb, w.before args s = true) ∧ meth.locks = false ∧ meth.name = μ.1.name ∧ R = g_room d mc ms ∧ va_K E.1 vwCl (g_tys E) s ∧ g_F E s
def g_H (E : gE) (M : gMem) (s : State) (H : Heap) (locs : List Loc) : Prop := va_P E.1 vwCl (g_w E M) H ∧ H.size = E.2.2.1 + M.2.2.2.2 ∧ M.2.2.2.2 ≤ 1000000 ∧ va_S (g_A E) s.heap H locs ∧ E.2.2.1 ≤ s.heap.size
def g_L (E : gE) (nL : Nat) (al : List (Option Value)) (ls : Array Slot) : Prop := ls.size = nL ∧ lv_wf ls ∧ ∀ (i : Nat) (v : Value), al[i]? = some (some v) → ls[i]? = some (.val (g_v E v))
abbrev gPost : Type := Option Value → gMem → Prop
def g_Q (E : gE) (post : gPost) : Array Value → State → Outcome → State → Prop := fun _ st o t =>
  (∃ (r : Option Value) (M : gMem), o = .returned (r.map (g_v E)) ∧ post r M ∧ va_P E.1 vwCl (g_w E M) t.heap ∧ t.heap.size = E.2.2.1 + M.2.2.2.2 ∧ M.2.2.2.2 ≤ 1000000) ∧ va_F (g_A E) st t
def G (μ : gMeth) (d mc ms : Nat) (post : gPost) (nc ns : Nat) (M : gMem) (al : List (Option Value)) (pc : Nat) (st : List Value) : Prop :=
  ∀ (E : gE) (p : Program) (l : Launch) (e : Env) (R : Room) (s : State) (m : MethodId) (args : Array Value) (below : List Frame) (meth : Method) (c : Code) (H : Heap) (locs : List Loc) (ls : Array Slot),
    g_C E μ d mc ms p R s m args meth c → g_H E M s H locs → g_L E μ.2.2.1 al ls →
    W p l e R s m args below meth c H locs nc ns (MQ below (g_Q E post) args s mc ms (g_A E)) (F0 m pc ls (st.map (g_v E)))
def g_At (E : gE) (M : gMem) (U : State) : Prop := va_K E.1 vwCl (g_tys E) U ∧ va_P E.1 vwCl (g_w E M) U.heap ∧ U.heap.size = E.2.2.1 + M.2.2.2.2 ∧ M.2.2.2.2 ≤ 1000000 ∧ g_F E U
def gMet (μ : gMeth) (d mc ms : Nat) (av : List Value) (M : gMem) (post : gPost) : Prop :=
  ∀ (E : gE) (l : Launch), Met l μ.1 (g_ws μ) (g_room d mc ms) (va_Pc (av.map (g_v E)) (fun U => g_At E M U)) (g_Q E post) mc ms (g_A E)
/-- a method's locals at its entry -/
def g_en : List Value → List (Option Value)
  | [] => []
  | v :: vs => if v.category = 2 then some v :: none :: g_en vs else some v :: g_en vs
theorem g_v_cat (E : gE) (v : Value) : (g_v E v).category = v.category := by cases v <;> rfl
theorem g_en_at (E : gE) : ∀ (av : List Value) (o i : Nat) (v : Value) (z : Nat), (g_en av ++ List.replicate z none)[i]? = some (some v) → (o + i, g_v E v) ∈ lv_args o (av.map (g_v E)) := by
  intro av
  induction av with
  | nil =>
    intro o i v z h
    simp only [g_en, List.nil_append, List.getElem?_replicate] at h
    split at h <;> cases h
  | cons w vs ih =>
    intro o i v z h
    by_cases hc : w.category = 2
    · simp only [g_en, if_pos hc] at h
      simp only [List.map_cons, lv_args, g_v_cat, if_pos hc]
      match i, h with
      | 0, h =>
        simp at h
        subst h
        exact List.mem_cons_self
      | 1, h => simp at h
      | i + 2, h =>
        have := ih (o + 2) i v z (by simpa using h)
        rw [show o + (i + 2) = o + 2 + i by omega]
        exact List.mem_cons_of_mem _ this
    · simp only [g_en, if_neg hc] at h
      simp only [List.map_cons, lv_args, g_v_cat, if_neg hc]
      match i, h with
      | 0, h =>
        simp at h
        subst h
        exact List.mem_cons_self
      | i + 1, h =>
        have := ih (o + 1) i v z (by simpa using h)
        rw [show o + (i + 1) = o + 1 + i by omega]
        exact List.mem_cons_of_mem _ this
theorem g_en_len (E : gE) : ∀ av : List Value, (lg_sl (av.map (g_v E))).length = (g_en av).length := by
  intro av
  induction av with
  | nil => rfl
  | cons w vs ih =>
    simp only [lg_sl, List.map_cons, List.flatMap_cons, List.length_append] at ih ⊢
    rw [ih, g_v_cat]
    by_cases hc : w.category = 2
    · simp [g_en, hc]; omega
    · simp [g_en, hc]; omega
set_option maxHeartbeats 1000000 in
theorem gMet.of {μ : gMeth} {d mc ms : Nat} {av : List Value} {M : gMem} {post : gPost} {al : List (Option Value)} (hy : plainName μ.1.cls = true) (hal : g_en av ++ List.replicate (μ.2.2.1 - (g_en av).length) none = al) (hlen : (g_en av).length ≤ μ.2.2.1)
    (h : G μ d mc ms post 0 0 M al 0 []) : gMet μ d mc ms av M post := by
  intro E l
  refine Met.ofW (cc := μ.2.1) (maxL := μ.2.2.1) (ret := μ.2.2.2) hy rfl ?_
  intro p e s m args below meth c s₁ B hml hv
  obtain ⟨rfl, hK, hP, hz, hn, hF⟩ := hv
  have hts := atoms_spec (ws := g_ws μ) B.pre
  have hown : s.vm.findClass μ.1.cls = some m.cls := findClass_of_methodNamed B.named
  have hin : meth.name = μ.1.name := (name_of_methodNamed B.named B.method).1
  have hl := lv_entry (av.map (g_v E)) (n := μ.2.2.1) (by rw [g_en_len]; exact hlen)
  rw [lg_entry_eq]
  refine h E p l e _ s m _ below meth c s.heap [] _ ⟨B.exec, B.bytes, B.returns, hml, hown, fun w hw => hts w (List.mem_cons_of_mem _ hw), B.notSynchronized, hin, rfl, hK, hF⟩ ⟨hP, hz, hn, va_S.rf, by omega⟩ ⟨hl.1, hl.2.1, fun i v hi => ?_⟩
  rw [← hal] at hi
  have := g_en_at E av 0 i v _ hi
  rw [Nat.zero_add] at this
  exact hl.2.2 _ this
