/-! new cells -/
theorem g_P_of {E : gE} {M : gMem} {H : Heap} (h : ∀ a, a < M.2.2.2.2 → va_at E.1 vwCl (g_ad E a, g_cell E M a) H) : va_P E.1 vwCl (g_w E M) H := fun k q hq => by
  obtain ⟨h1, rfl⟩ := g_w_of hq
  exact h k h1
theorem g_ad_lo (E : gE) {a : Nat} (h : a < 1000000) : g_ad E a = E.2.2.1 + a := by
  unfold g_ad
  rw [if_pos h]
section GN
variable {μ : gMeth} {d mc ms : Nat} {post : gPost} {nc ns : Nat} {K : Nat → gK} {I : Nat → Nat → Int32} {J : Nat → Nat → Int64} {P : Nat → Nat → Option Nat} {n : Nat} {al : List (Option Value)} {pc : Nat} {st : List Value}
theorem g_S_new {A : Nat → Prop} {H0 H H1 : Heap} {locs : List Loc} (hS : va_S A H0 H locs) (hz : H.size ≤ H1.size) (ho : ∀ q : Nat, q < H.size → H1[q]? = H[q]?) : va_S A H0 H1 locs :=
  ⟨Nat.le_trans hS.1 hz, fun q h1 h2 => (ho q (Nat.lt_of_lt_of_le h1 hS.1)).trans (hS.2.1 q h1 h2), hS.2.2⟩
/-- what a cell without a store holds -/
theorem g_fv_0 {E : gE} {M : gMem} {a k : Nat} {ty : FieldType} (hty : ty ≠ .float ∧ ty ≠ .double) (h1 : M.2.1 a k = 0) (h2 : M.2.2.1 a k = 0) (h3 : M.2.2.2.1 a k = none) : g_fv E M a ty k = defaultValue ty := by
  cases ty <;> simp [g_fv, h1, h2, h3, defaultValue, va_rf] at hty ⊢
theorem g_ty_nf : ∀ ci, ci < 11 → ∀ k, k < g_N ci → g_ty ci k ≠ .float ∧ g_ty ci k ≠ .double := g_11 (by decide +kernel) (by decide +kernel) (by decide +kernel) (by decide +kernel) (by decide +kernel) (by decide +kernel) (by decide +kernel) (by decide +kernel) (by decide +kernel) (by decide +kernel) (by decide +kernel)
theorem G_new {idx ci : Nat} (hd : decode μ.2.1 pc = .ok (.new idx, 3)) (hci : ci < 11) (hcl : Cond.classLink μ.1.cls idx (g_R ci) ∈ g_tb) (hin : Cond.instantiable (g_R ci) (g_N ci) ∈ g_tb ∧ Cond.initialized (g_R ci) ∈ g_tb) (hK : K n = .inl ci) (hI : ∀ k, I n k = 0) (hJ : ∀ k, J n k = 0) (hP : ∀ k, P n k = none) (hn : n + 1 ≤ 1000000) (hc : nc + 1 ≤ mc ∧ ns + g_N ci ≤ ms)
    (k : G μ d mc ms post (nc + 1) (ns + g_N ci) (K, I, J, P, n + 1) al (pc + 3) (.ref n :: st)) : G μ d mc ms post nc ns (K, I, J, P, n) al pc st := by
  intro E p l e R s m args below meth c H locs ls hC hH hL
  have hts := hC.2.2.2.2.2.1
  have hR := hC.2.2.2.2.2.2.2.2.1
  have hKn := hC.2.2.2.2.2.2.2.2.2.1.1 ci _ (g_cl ci hci)
  refine W.newcK (n := g_N ci) hC.1 hC.2.1 hC.2.2.2.2.1 (hts _ hcl) (hts _ hin.1) (hts _ hin.2) rfl hd (by rw [hR]; exact hc.1) (by rw [hR]; exact hc.2) hKn.2.1 rfl fun H1 kC hkC e1 z1 o1 => ?_
  have had : g_ad E n = H.size := by rw [g_ad_lo E (by omega)]; exact hH.2.1.symm
  have kk := k E p l e R s m args below meth c H1 locs ls hC ⟨g_P_of (fun a ha => ?_), by rw [z1, hH.2.1]; exact Nat.add_assoc _ _ _, hn, g_S_new hH.2.2.2.1 (by omega) o1, hH.2.2.2.2⟩ hL
  · simp only [List.map_cons, g_v, had] at kk
    exact kk
  · have ha' : a < n + 1 := ha
    by_cases hlt : a < n
    · rw [show g_cell E (K, I, J, P, n + 1) a = g_cell E (K, I, J, P, n) a from g_cell_congr rfl rfl rfl rfl]
      exact (hH.1 a _ (g_w_at hlt)).kept (o1 _ (by rw [g_ad_lo E (by omega), hH.2.1]; show E.2.2.1 + a < E.2.2.1 + n; omega))
    · have e : a = n := by omega
      subst e
      rw [g_cell_o (M := (K, I, J, P, a + 1)) hK, had]
      refine ⟨_, g_cl ci hci, (u_born (g_ty ci) hts (g_inT ci hci) hKn hkC e1 (g_tyok ci hci)).to (fun j hj => ?_)⟩
      have h9 : vp_V (g_fs E (K, I, J, P, a + 1) a ci) j = g_fv E (K, I, J, P, a + 1) a (g_ty ci j) j := by
        unfold vp_V
        rw [List.getD_eq_getElem?_getD, g_fs_at hj]
        rfl
      rw [h9]
      exact (g_fv_0 (g_ty_nf ci hci j hj) (hI j) (hJ j) (hP j)).symm
theorem G_newa {t N : Nat} {x : Int32} {atype : ArrayType} (hd : decode μ.2.1 pc = .ok (.newarray atype, 2)) (ht : t < 3) (hty : newarray.typeOf atype = g_el t) (hac : Cond.arrayClass (g_el t) ∈ g_tb) (hx : x.toNatClampNeg = N ∧ ¬ x < 0) (hb : N ≤ 10000) (hK : K n = .inr (t, N)) (hI : ∀ k, I n k = 0) (hJ : ∀ k, J n k = 0) (hn : n + 1 ≤ 1000000) (hc : nc + 1 ≤ mc ∧ ns + N ≤ ms)
    (k : G μ d mc ms post (nc + 1) (ns + N) (K, I, J, P, n + 1) al (pc + 2) (.ref n :: st)) : G μ d mc ms post nc ns (K, I, J, P, n) al pc (.int x :: st) := by
  intro E p l e R s m args below meth c H locs ls hC hH hL
  have hts := hC.2.2.2.2.2.1
  have hR := hC.2.2.2.2.2.2.2.2.1
  have hcb : componentBytes (newarray.typeOf atype) ≤ 8 := by
    cases atype <;> decide
  refine va_newaK (N := N) hC.1 hC.2.1 (by rw [hty]; exact hts _ hac) rfl hd rfl hx.2 hx.1 (Nat.le_trans (Nat.mul_le_mul hb hcb) (by decide)) (by rw [hR]; exact hc.1) (by rw [hR]; exact hc.2) rfl fun H1 cA e1 z1 o1 hAr hNm => ?_
  have had : g_ad E n = H.size := by rw [g_ad_lo E (by omega)]; exact hH.2.1.symm
  have hKt := (hC.2.2.2.2.2.2.2.2.2.1.2 t _ (g_tys_at E (by omega))).2
  have hcA : cA = E.2.1 t := by
    rw [hty] at hNm
    have h2 : s.vm.findClass ("[" ++ (g_el t).toString) = some (E.2.1 t) := by
      match t, ht, hKt with
      | 0, _, h => exact h
      | 1, _, h => exact h
      | 2, _, h => exact h
    exact Option.some.inj (hNm.symm.trans h2)
  have kk := k E p l e R s m args below meth c H1 locs ls hC ⟨g_P_of (fun a ha => ?_), by rw [z1, hH.2.1]; exact Nat.add_assoc _ _ _, hn, g_S_new hH.2.2.2.1 (by omega) o1, hH.2.2.2.2⟩ hL
  · simp only [List.map_cons, g_v, had] at kk
    exact kk
  · have ha' : a < n + 1 := ha
    by_cases hlt : a < n
    · rw [show g_cell E (K, I, J, P, n + 1) a = g_cell E (K, I, J, P, n) a from g_cell_congr rfl rfl rfl rfl]
      exact (hH.1 a _ (g_w_at hlt)).kept (o1 _ (by rw [g_ad_lo E (by omega), hH.2.1]; show E.2.2.1 + a < E.2.2.1 + n; omega))
    · have e : a = n := by omega
      subst e
      rw [g_cell_a (M := (K, I, J, P, a + 1)) hK, had]
      show H1[H.size]? = some (vp_cell (E.2.1 t) (N, g_arr E (K, I, J, P, a + 1) a t))
      rw [e1, hcA, hty]
      match t, ht with
      | 0, _ => exact congrArg some (congrArg (arrV (E.2.1 0) N) (funext fun j => by show Value.int 0 = Value.int (I a j); rw [hI j]))
      | 1, _ => exact congrArg some (congrArg (arrV (E.2.1 1) N) (funext fun j => by show Value.int 0 = Value.int (I a j); rw [hI j]))
      | 2, _ => exact congrArg some (congrArg (arrV (E.2.1 2) N) (funext fun j => by show Value.long 0 = Value.long (J a j); rw [hJ j]))
theorem G_anew {t N ci idx : Nat} {x : Int32} (hd : decode μ.2.1 pc = .ok (.anewarray idx, 3)) (ht : t < 7) (ht3 : 3 ≤ t) (hci : ci < 11) (hel : g_el t = .object (g_R ci)) (hcl : Cond.classLink μ.1.cls idx (g_R ci) ∈ g_tb) (hover : ∀ U, g_F3 U → va_AO (g_R ci) U) (hx : x.toNatClampNeg = N ∧ ¬ x < 0) (hb : N ≤ 10000) (hK : K n = .inr (t, N)) (hP : ∀ k, P n k = none) (hn : n + 1 ≤ 1000000) (hc : nc + 1 ≤ mc ∧ ns + N ≤ ms)
    (k : G μ d mc ms post (nc + 1) (ns + N) (K, I, J, P, n + 1) al (pc + 3) (.ref n :: st)) : G μ d mc ms post nc ns (K, I, J, P, n) al pc (.int x :: st) := by
  intro E p l e R s m args below meth c H locs ls hC hH hL
  have hts := hC.2.2.2.2.2.1
  have hR := hC.2.2.2.2.2.2.2.2.1
  have hao := hover s hC.2.2.2.2.2.2.2.2.2.2.2.2
  obtain ⟨hx1, hx2⟩ := hx
  subst hx1
  refine W.anew hC.1 hC.2.1 hC.2.2.2.2.1 (hts _ hcl) (va_AO.use hao) rfl hd rfl hx2 (by omega) (by rw [hR]; exact hc.1) (by rw [hR]; exact hc.2) fun cA kA comp f1 f2 f3 f4 => ?_
  generalize hH1 : H.push ({ cls := cA, slots := Array.replicate x.toNatClampNeg .null, vm := .none } : Cell) = H1
  have z1 : H1.size = H.size + 1 := by rw [← hH1, Array.size_push]
  have e1 : H1[H.size]? = some (arrV cA x.toNatClampNeg (fun _ => .null)) := by rw [← hH1, Array.getElem?_push_size, ← arrV_new]
  have o1 : ∀ q : Nat, q < H.size → H1[q]? = H[q]? := fun q hq => by rw [← hH1, Array.getElem?_push, if_neg (Nat.ne_of_lt hq)]
  have had : g_ad E n = H.size := by rw [g_ad_lo E (by omega)]; exact hH.2.1.symm
  have hKt := (hC.2.2.2.2.2.2.2.2.2.1.2 t _ (g_tys_at E ht)).2
  have hcA : cA = E.2.1 t := by
    have h2 : va_RA s (E.2.1 t) (.object (g_R ci)) := by rw [← hel]; exact hKt
    obtain ⟨kA', comp', -, -, -, h3⟩ := h2
    exact Option.some.inj (f1.symm.trans h3)
  have kk := k E p l e R s m args below meth c H1 locs ls hC ⟨g_P_of (fun a ha => ?_), by rw [z1, hH.2.1]; exact Nat.add_assoc _ _ _, hn, g_S_new hH.2.2.2.1 (by omega) o1, hH.2.2.2.2⟩ hL
  · simp only [List.map_cons, g_v, had] at kk
    exact kk
  · have ha' : a < n + 1 := ha
    by_cases hlt : a < n
    · rw [show g_cell E (K, I, J, P, n + 1) a = g_cell E (K, I, J, P, n) a from g_cell_congr rfl rfl rfl rfl]
      exact (hH.1 a _ (g_w_at hlt)).kept (o1 _ (by rw [g_ad_lo E (by omega), hH.2.1]; show E.2.2.1 + a < E.2.2.1 + n; omega))
    · have e : a = n := by omega
      subst e
      rw [g_cell_a (M := (K, I, J, P, a + 1)) hK, had, g_arr_q ht3 ht]
      show H1[H.size]? = some (vp_cell (E.2.1 t) (x.toNatClampNeg, .inr (.inr (.inr (.inr (fun j => (P a j).map (g_ad E)))))))
      rw [e1, hcA, vp_cell_q]
      exact congrArg some (congrArg (arrV (E.2.1 t) _) (funext fun j => by rw [hP j]; rfl))
/-- the same cells under another table -/
def g_sameC (M M' : gMem) (a : Nat) : Prop := M.1 a = M'.1 a ∧ match M.1 a with
  | .inl ci => ∀ k, k < g_N ci → M.2.1 a k = M'.2.1 a k ∧ M.2.2.1 a k = M'.2.2.1 a k ∧ M.2.2.2.1 a k = M'.2.2.2.1 a k
  | .inr (_, n) => ∀ k, k < n → M.2.1 a k = M'.2.1 a k ∧ M.2.2.1 a k = M'.2.2.1 a k ∧ M.2.2.2.1 a k = M'.2.2.2.1 a k
theorem g_arrV_ext {cA : ClassId} {N : Nat} {f g : Nat → Value} (h : ∀ j, j < N → f j = g j) : arrV cA N f = arrV cA N g := by
  unfold arrV
  congr 2
  funext j
  exact h j.val j.isLt
theorem g_at_same {E : gE} {M M' : gMem} {a : Nat} {H : Heap} (h : g_sameC M M' a) (hat : va_at E.1 vwCl (g_ad E a, g_cell E M a) H) : va_at E.1 vwCl (g_ad E a, g_cell E M' a) H := by
  obtain ⟨h1, h2⟩ := h
  cases hk : M.1 a with
  | inl ci =>
    rw [hk] at h2
    have h2 : ∀ k, k < g_N ci → M.2.1 a k = M'.2.1 a k ∧ M.2.2.1 a k = M'.2.2.1 a k ∧ M.2.2.2.1 a k = M'.2.2.2.1 a k := h2
    rw [g_cell_o hk] at hat
    rw [g_cell_o (h1.symm.trans hk)]
    have e : g_fs E M' a ci = g_fs E M a ci := by
      unfold g_fs
      apply List.map_congr_left
      intro k hk9
      obtain ⟨q1, q2, q3⟩ := h2 k (List.mem_range.mp hk9)
      unfold g_fv
      rw [q1, q2, q3]
    rw [e]
    exact hat
  | inr q =>
    obtain ⟨t, n⟩ := q
    rw [hk] at h2
    have h2 : ∀ k, k < n → M.2.1 a k = M'.2.1 a k ∧ M.2.2.1 a k = M'.2.2.1 a k ∧ M.2.2.2.1 a k = M'.2.2.2.1 a k := h2
    rw [g_cell_a hk] at hat
    rw [g_cell_a (h1.symm.trans hk)]
    have hat : H[g_ad E a]? = some (vp_cell (E.2.1 t) (n, g_arr E M a t)) := hat
    show H[g_ad E a]? = some (vp_cell (E.2.1 t) (n, g_arr E M' a t))
    rw [hat]
    refine congrArg some ?_
    match t with
    | 0 => exact g_arrV_ext (fun j hj => congrArg Value.int (h2 j hj).1)
    | 1 => exact g_arrV_ext (fun j hj => congrArg Value.int (h2 j hj).1)
    | 2 => exact g_arrV_ext (fun j hj => congrArg Value.long (h2 j hj).2.1)
    | t + 3 => exact g_arrV_ext (fun j hj => congrArg (fun o => va_rf (Option.map (g_ad E) o)) (h2 j hj).2.2)
theorem G_mem {M : gMem} (M' : gMem) (hn : M'.2.2.2.2 = M.2.2.2.2) (h : ∀ a, a < M.2.2.2.2 → g_sameC M M' a) (k : G μ d mc ms post nc ns M' al pc st) : G μ d mc ms post nc ns M al pc st := by
  intro E p l e R s m args below meth c H locs ls hC hH hL
  exact k E p l e R s m args below meth c H locs ls hC ⟨g_P_of (fun a ha => g_at_same (h a (by omega)) (hH.1 a _ (g_w_at (by omega)))), by rw [hn]; exact hH.2.1, by rw [hn]; exact hH.2.2.1, hH.2.2.2.1, hH.2.2.2.2⟩ hL
end GN
theorem g_AOA_before {U : State} {args : Array Value} (h : g_AOA U) : (Cond.arrayOver (.array .int)).before args U = true := by
  obtain ⟨comp, c, k, h1, h2, h3, h4, h5⟩ := h
  have hi : (U.vm.classes.findIdx? fun (x : Class) => match x.kind with | .array component _ => component == comp | _ => false) = some c := h2
  unfold Cond.before Cond.holds
  simp only [Cond.value]
  rw [h1, Option.bind_some]
  refine (congrArg (fun o : Option Nat => (o.bind (fun c => (U.vm.classes[c]?).map fun (k : Class) => match k.kind with | .array _ ty => decide (ty = FieldType.array .int) && decide (U.vm.findClass ("[" ++ (FieldType.array .int).toString) = some c) | _ => false) == some true)) hi).trans ?_
  simp [h3, h4, h5]
/-- rows of a new array of arrays -/
def g_r (P : Nat → Nat → Option Nat) (n N : Nat) : Nat → Nat → Option Nat := fun b => if b = n then (fun j => if j < N then some (n + 1 + j) else none) else P b
theorem g_r_self (P : Nat → Nat → Option Nat) (n N : Nat) : g_r P n N n = fun j => if j < N then some (n + 1 + j) else none := by simp [g_r]
theorem g_r_ne (P : Nat → Nat → Option Nat) {n N b : Nat} (h : b ≠ n) : g_r P n N b = P b := by simp [g_r, h]
theorem g_outer (c : ClassId) (N h0 : Nat) : ∀ i : Nat, Jvm.Free.Multi.outerC c N h0 i = arrV c N (fun j => va_rf (if j < i then some (h0 + 1 + j) else none))
  | 0 => by
    show ({ cls := c, slots := Array.replicate N .null, vm := .none } : Cell) = _
    rw [arrV_new]
    exact congrArg (arrV c N) (funext fun j => by simp [va_rf])
  | i + 1 => by
    show (Jvm.Free.Multi.outerC c N h0 i).setSlot i (.ref (h0 + 1 + i)) = _
    rw [g_outer c N h0 i, arrV_store]
    refine congrArg (arrV c N) (funext fun j => ?_)
    by_cases e : j = i
    · subst e
      simp [updV, va_rf]
    · by_cases h : j < i
      · simp [updV, e, h, Nat.lt_succ_of_lt h]
      · simp [updV, e, h, show ¬ j < i + 1 by omega]
section GMn
variable {μ : gMeth} {d mc ms : Nat} {post : gPost} {nc ns : Nat} {K : Nat → gK} {I : Nat → Nat → Int32} {J : Nat → Nat → Int64} {P : Nat → Nat → Option Nat} {n : Nat} {al : List (Option Value)} {pc : Nat} {st : List Value}
set_option maxHeartbeats 1000000 in
theorem G_mna {N L idx : Nat} {x y : Int32} (hd : decode μ.2.1 pc = .ok (.multianewarray idx 2, 4)) (hcl : Cond.classLink μ.1.cls idx ("[" ++ (FieldType.array .int).toString) ∈ g_tb) (hac : Cond.arrayClass .int ∈ g_tb) (hx : x.toNatClampNeg = N ∧ ¬ x < 0) (hy : y.toNatClampNeg = L ∧ ¬ y < 0) (hb : N ≤ 1000 ∧ L ≤ 1000) (hK : K n = .inr (6, N)) (hK2 : ∀ j, j < N → K (n + 1 + j) = .inr (0, L)) (hI : ∀ j, j < N → ∀ k, I (n + 1 + j) k = 0) (hn : n + 1 + N ≤ 1000000) (hc : nc + (1 + N) ≤ mc ∧ ns + (N + N * L) ≤ ms)
    (k : G μ d mc ms post (nc + 1 + N) (ns + N + N * L) (K, I, J, g_r P n N, n + 1 + N) al (pc + 4) (.ref n :: st)) : G μ d mc ms post nc ns (K, I, J, P, n) al pc (.int y :: .int x :: st) := by
  intro E p l e R s m args below meth c H locs ls hC hH hL
  have hts := hC.2.2.2.2.2.1
  have hR := hC.2.2.2.2.2.2.2.2.1
  have hao := g_AOA_before (args := args) hC.2.2.2.2.2.2.2.2.2.2.2.2.2.2.2.2
  obtain ⟨hx1, hx2⟩ := hx
  obtain ⟨hy1, hy2⟩ := hy
  subst hx1
  subst hy1
  intro T hT X
  obtain ⟨vm₁, cA, comp, -, fA, fC, hO, -, X', step⟩ := X.multianewarray2F hC.1 hC.2.2.2.2.1 (hts _ hcl) hao (hts _ hac) (g := F0 m pc ls (.int y :: .int x :: st.map (g_v E))) rfl (by rw [hC.2.1]; exact hd) rfl hx2 hy2 (by omega) (by show y.toNatClampNeg * 4 ≤ _; omega) (by omega) rfl rfl (by rw [hR]; exact hc.1) (by rw [hR]; exact hc.2)
  generalize hF : Jvm.Free.Multi.fill (T.setVm vm₁) cA comp x.toNatClampNeg y.toNatClampNeg (defaultValue .int) x.toNatClampNeg = F at X' step
  have hTh : (T.setVm vm₁).heap = H := hT
  obtain ⟨f1, f2, -, -⟩ := Jvm.Free.Multi.fill_facts (T.setVm vm₁) cA comp x.toNatClampNeg y.toNatClampNeg (defaultValue .int) x.toNatClampNeg
  rw [hF, hTh] at f1 f2
  have hold : ∀ q : Nat, q < H.size → F.heap[q]? = H[q]? := fun q hq => by
    have := Jvm.Free.Multi.fill_old (T.setVm vm₁) cA comp x.toNatClampNeg y.toNatClampNeg (defaultValue .int) (a := q) (by rw [hTh]; exact hq) x.toNatClampNeg
    rw [hF, hTh] at this
    exact this
  have hrow : ∀ j : Nat, j < x.toNatClampNeg → F.heap[H.size + 1 + j]? = some (Jvm.Free.Multi.innerC comp y.toNatClampNeg (defaultValue .int)) := fun j hj => by
    have := Jvm.Free.Multi.fill_inner (T.setVm vm₁) cA comp x.toNatClampNeg y.toNatClampNeg (defaultValue .int) x.toNatClampNeg j hj
    rw [hF, hTh] at this
    exact this
  have hA6 : cA = E.2.1 6 := Option.some.inj (fA.symm.trans ((hC.2.2.2.2.2.2.2.2.2.1.2 6 _ (g_tys_at E (by decide))).2))
  have hA0 : comp = E.2.1 0 := Option.some.inj (fC.symm.trans ((hC.2.2.2.2.2.2.2.2.2.1.2 0 _ (g_tys_at E (by decide))).2))
  have hz : H.size = E.2.2.1 + n := hH.2.1
  have had : g_ad E n = H.size := by rw [g_ad_lo E (by omega), hz]
  have kk := k E p l e R s m args below meth c F.heap locs ls hC ⟨g_P_of (fun a ha => ?_), by rw [f1, hz]; show E.2.2.1 + n + 1 + x.toNatClampNeg = E.2.2.1 + (n + 1 + x.toNatClampNeg); omega, hn, g_S_new hH.2.2.2.1 (by rw [f1]; omega) hold, hH.2.2.2.2⟩ hL
  · simp only [List.map_cons, g_v, had] at kk
    obtain ⟨t, a1, b1⟩ := kk F rfl X'
    refine ⟨t, step t ?_, b1⟩
    rw [hT]
    exact a1
  · have ha' : a < n + 1 + x.toNatClampNeg := ha
    by_cases hlt : a < n
    · rw [show g_cell E (K, I, J, g_r P n x.toNatClampNeg, n + 1 + x.toNatClampNeg) a = g_cell E (K, I, J, P, n) a from g_cell_congr rfl rfl rfl (g_r_ne P (by omega))]
      exact (hH.1 a _ (g_w_at hlt)).kept (hold _ (by rw [g_ad_lo E (by omega), hz]; show E.2.2.1 + a < E.2.2.1 + n; omega))
    · by_cases he : a = n
      · subst he
        rw [g_cell_a (M := (K, I, J, g_r P a x.toNatClampNeg, a + 1 + x.toNatClampNeg)) hK, had, g_arr_q (by decide) (by decide)]
        show F.heap[H.size]? = some (vp_cell (E.2.1 6) (x.toNatClampNeg, .inr (.inr (.inr (.inr (fun j => (g_r P a x.toNatClampNeg a j).map (g_ad E)))))))
        rw [f2, g_outer, vp_cell_q, hA6, g_r_self]
        refine congrArg some (g_arrV_ext (fun j hj => ?_))
        simp only [if_pos hj, Option.map_some]
        rw [g_ad_lo E (by omega), hz]
        exact congrArg (fun q => va_rf (some q)) (by omega)
      · obtain ⟨j, rfl⟩ : ∃ j, a = n + 1 + j := ⟨a - (n + 1), by omega⟩
        have hj : j < x.toNatClampNeg := by omega
        rw [g_cell_a (M := (K, I, J, g_r P n x.toNatClampNeg, n + 1 + x.toNatClampNeg)) (hK2 j hj)]
        show F.heap[g_ad E (n + 1 + j)]? = some (vp_cell (E.2.1 0) (y.toNatClampNeg, .inl (I (n + 1 + j))))
        rw [g_ad_lo E (by omega), show E.2.2.1 + (n + 1 + j) = H.size + 1 + j by omega, hrow j hj, hA0]
        refine congrArg some ?_
        show ({ cls := E.2.1 0, slots := Array.replicate y.toNatClampNeg (defaultValue .int), vm := .none } : Cell) = arrV (E.2.1 0) y.toNatClampNeg (fun i => .int (I (n + 1 + j) i))
        rw [arrV_new]
        exact g_arrV_ext (fun i hi => by show Value.int 0 = _; rw [hI j hj i])
end GMn
