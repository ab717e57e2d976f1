/-! System.arraycopy of whole rows -/
section HC
variable {p : Program} {l : Launch} {e : Env} {R : Room} {s : State} {m : MethodId} {args : Array Value} {below : List Frame} {meth : Method} {c : Code} {H : Heap} {locs : List Loc} {cells slots : Nat} {Q : State → Prop}
variable {cc : ByteArray} {pc : Nat} {ls : Array Slot} {rest : List Value}
theorem h_cp {α : Type} (mk : α → Value) (hexec : p.tables.exec = Jvm.exec) (hb : c.code = cc) (hml : c.maxLocals = ls.size) {own : String} {index : Nat} (hown : s.vm.findClass own = some m.cls) (hlink : (Cond.methodLink own index arraycopyName).before args s = true) (hnat : (Cond.native arraycopyName).before args s = true) (hstat : (Cond.static arraycopyName).before args s = true) (hini : (Cond.initialized "java/lang/System").before args s = true)
    {a0 a N n1 : Nat} {cs : Cell} {c1 : ClassId} {f g : Nat → α} {ty : FieldType} {n : Int32} (hcs : H[a0]? = some cs) (hof : s.isArrayOf cs ty) (hkn : cs.vm ≠ .unknown) (hsz : N ≤ cs.slots.size) (hrd : ∀ j : Nat, j < N → cs.slots[j]? = some (mk (f j))) (hcd : H[a]? = some (arrV c1 n1 (fun j => mk (g j)))) (hod : ArrOfT s c1 ty) (hprim : refKind ty = false) (hn : n.toNatClampNeg = N) (hn0 : ¬ n < 0) (h1 : N ≤ n1) (hfit : ∀ i, i < N → fits ty (mk (f i)) = true) (hnr : ∀ i, ∀ q : Nat, mk (f i) ≠ .ref q)
    (hframes : 1 ≤ R.frames) (hlocals : (rest.map fun v => v.category).sum + (nativeFrameWords "java/lang/System" "arraycopy" 5 + 11) ≤ R.locals) (hdg : decode cc pc = .ok (.invokestatic index, 3))
    (kk : ∀ (H1 : Heap) (L : List Loc), H1.size = H.size → H1[a]? = some (arrV c1 n1 (fun j => mk (if j < N then f j else g j))) → (∀ q : Nat, q ≠ a → H1[q]? = H[q]?) → (∀ q ∈ L, q.base = a) → W p l e R s m args below meth c H1 (locs ++ L) cells slots Q (F0 m (pc + 3) ls rest)) :
    W p l e R s m args below meth c H locs cells slots Q (F0 m pc ls (.int n :: .int 0 :: .ref a :: .int 0 :: .ref a0 :: rest)) := by
  have hni : n.toInt = (N : Int) := by
    have hz0 : (0 : Int) ≤ n.toInt := by
      have := Int32.not_lt.mp hn0
      simpa using Int32.le_iff_toInt_le.mp this
    have : n.toInt.toNat = N := hn
    omega
  intro T hT X
  obtain ⟨hs6, k0, hk0, cm0, hkk0⟩ := hof
  obtain ⟨-, k1, hk1, cm1, hkk1⟩ := hod n1 (fun j => mk (g j))
  have z0 : (0 : Int32).toNatClampNeg = 0 := by decide
  have zi : (0 : Int32).toInt = 0 := by decide
  obtain ⟨vm', X', step⟩ := X.arraycopy hexec hown hlink hnat hstat hini (src := a0) (dst := a) (cs := cs) (cd := arrV c1 n1 (fun j => mk (g j))) (srcPos := 0) (destPos := 0) (n := n) (by rw [hT]; exact hcs) (by rw [hT]; exact hcd)
    hs6 (fun _ h => by cases h) hkn (fun h => by cases h) hk0 hk1 hkk0 hkk1 (by simp [hprim]) (by decide) (by decide) hn0
    (by rw [hni, zi]; omega) (by rw [hni, zi, arrV_size]; omega)
    (fun vm₁ _ i hi => by
      rw [hn] at hi
      have ee : cs.slots.getD ((0 : Int32).toNatClampNeg + i) .null = mk (f i) := by
        rw [z0, Nat.zero_add, Array.getD_eq_getD_getElem?, hrd _ hi]
        rfl
      rw [ee]
      refine ⟨hfit i hi, ?_⟩
      cases hm : mk (f i) with
      | ref q => exact absurd hm (hnr i q)
      | _ => exact trivial)
    (g := F0 m pc ls (.int n :: .int 0 :: .ref a :: .int 0 :: .ref a0 :: rest)) rfl (by rw [hml]) (rest := rest) rfl (by rw [hb]; exact hdg) hframes (by show 2 * 0 + _ + _ ≤ _; omega)
  have e1 : copied cs (arrV c1 n1 (fun j => mk (g j))) 0 0 n = arrV c1 n1 (fun j => mk (if j < N then f j else g j)) := by
    have h := va_copiedX mk cs c1 (n0 := N) (n1 := n1) (sp := 0) (dp := 0) (n := N) f g hrd (by omega)
    refine Eq.trans ?_ (h.trans ?_)
    · show (arrV c1 n1 (fun j => mk (g j))).storeRun (0 : Int32).toNatClampNeg (cs.stretch (0 : Int32).toNatClampNeg n.toNatClampNeg) = _
      rw [z0, hn]
    · congr 1
      funext j
      simp [va_cpy]
  rw [e1] at X' step
  have hl : a < H.size := (Array.getElem?_eq_some_iff.mp hcd).1
  generalize hG : H.setIfInBounds a (arrV c1 n1 (fun j => mk (if j < N then f j else g j))) = H1
  have hheap : ((T.setVm vm').setCell a (arrV c1 n1 (fun j => mk (if j < N then f j else g j)))).heap = H1 := by rw [← hG, ← hT]; rfl
  obtain ⟨t, a1, b1⟩ := kk H1 _ (by rw [← hG]; simp) (by rw [← hG]; simp [Array.getElem?_setIfInBounds, hl]) (fun q hq => by rw [← hG]; simp [Array.getElem?_setIfInBounds, Ne.symm hq]) (fun q hq => by
    obtain ⟨z, -, hz⟩ := List.mem_map.mp hq
    rw [← hz]) _ hheap X'
  exact ⟨t, step t a1, b1⟩
end HC
section GCp
variable {μ : gMeth} {d mc ms : Nat} {post : gPost} {nc ns : Nat} {K : Nat → gK} {I : Nat → Nat → Int32} {J : Nat → Nat → Int64} {P : Nat → Nat → Option Nat} {n : Nat} {al : List (Option Value)} {pc : Nat} {st : List Value}
theorem g_cp_ne {α : Type} (f : Nat → Nat → α) {src dst N b : Nat} (h : b ≠ dst) : g_cp f src dst N b = f b := by simp [g_cp, h]
theorem g_cp_self {α : Type} (f : Nat → Nat → α) (src dst N : Nat) : g_cp f src dst N dst = fun j => if j < N then f src j else f dst j := by simp [g_cp]
theorem g_cs_ne (f : gI) {i dst N b : Nat} (h : b ≠ dst) : g_cs f i dst N b = f b := by simp [g_cs, h]
theorem g_cs_self (f : gI) (i dst N : Nat) : g_cs f i dst N dst = fun j => if j < N then g_sf i j else f dst j := by simp [g_cs]
theorem g_S_cp {A : Nat → Prop} {H0 H H1 : Heap} {locs L : List Loc} {a : Nat} (hS : va_S A H0 H locs) (hz : H1.size = H.size) (ho : ∀ q : Nat, q ≠ a → H1[q]? = H[q]?) (hL : ∀ q ∈ L, q.base = a) (hA : A a) : va_S A H0 H1 (locs ++ L) := by
  refine ⟨by rw [hz]; exact hS.1, fun q h1 h2 => ?_, fun q hq => ?_⟩
  · rw [ho q (fun e => h2 (by rw [e]; exact hA))]
    exact hS.2.1 q h1 h2
  · rcases List.mem_append.mp hq with h | h
    · exact hS.2.2 q h
    · rw [hL q h]
      exact hA
theorem nfw : nativeFrameWords "java/lang/System" "arraycopy" 5 + 11 ≤ 60 := by decide +kernel
abbrev g_cplink (own : String) (idx : Nat) : Prop := Cond.methodLink own idx ⟨"java/lang/System", "arraycopy", "(Ljava/lang/Object;ILjava/lang/Object;II)V"⟩ ∈ g_tb
theorem G_copyi {idx a0 a n0 n1 : Nat} {x : Int32} (N : Nat) (hd : decode μ.2.1 pc = .ok (.invokestatic idx, 3)) (hk0 : gk K n a0 (.inr (0, n0))) (hk : gk K n a (.inr (0, n1))) (hl : g_cplink μ.1.cls idx) (hx : x.toNatClampNeg = N ∧ ¬ x < 0) (h0 : N ≤ n0) (h1 : N ≤ n1) (hr : (st.map fun v => v.category).sum ≤ 8) (k : G μ d mc ms post nc ns (K, g_cp I a0 a N, J, P, n) al (pc + 3) st) : G μ d mc ms post nc ns (K, I, J, P, n) al pc (.int x :: .int 0 :: .ref a :: .int 0 :: .ref a0 :: st) := by
  intro E p l e R s m args below meth c H locs ls hC hH hL
  have hts := hC.2.2.2.2.2.1
  have hR := hC.2.2.2.2.2.2.2.2.1
  have hw0 := g_w_at (E := E) (M := (K, I, J, P, n)) hk0.2
  rw [g_cell_a hk0.1] at hw0
  have hw := g_w_at (E := E) (M := (K, I, J, P, n)) hk.2
  rw [g_cell_a hk.1] at hw
  have hT := (hC.2.2.2.2.2.2.2.2.2.1.2 0 _ (g_tys_at E (by decide))).1
  have hn := nfw
  refine h_cp (fun z : Int32 => Value.int z) (f := I a0) (g := I a) hC.1 hC.2.1 (by rw [hC.2.2.2.1]; exact hL.1.symm) hC.2.2.2.2.1 (hts _ hl) (hts _ nat_copy.1) (hts _ nat_copy.2.1) (hts _ nat_copy.2.2) (hH.1 a0 _ hw0) (hT n0 (fun j => .int (I a0 j))) (fun q => by cases q) (by show N ≤ (arrV _ _ _).slots.size; rw [arrV_size]; exact h0) (fun j hj => arrV_read _ _ (show j < n0 by omega)) (hH.1 a _ hw) hT rfl hx.1 hx.2 h1 (fun _ _ => rfl) (fun _ _ q => by cases q) (by rw [hR]; simp only [g_room]; omega) (by rw [hR, g_cats]; simp only [g_room]; omega) hd (fun H1 L hz he ho hLL => ?_)
  have hew : g_w E (K, g_cp I a0 a N, J, P, n) = (g_w E (K, I, J, P, n)).set a (g_ad E a, .inl (E.2.1 0, n1, .inl (fun j => if j < N then I a0 j else I a j))) := by
    refine (g_w_set (M := (K, I, J, P, n)) (M' := (K, g_cp I a0 a N, J, P, n)) rfl ?_ (fun b hb => g_cell_congr (M := (K, g_cp I a0 a N, J, P, n)) (M' := (K, I, J, P, n)) rfl (g_cp_ne I hb) rfl rfl)).symm
    rw [g_cell_a (M := (K, g_cp I a0 a N, J, P, n)) hk.1]
    show Sum.inl (E.2.1 0, n1, Sum.inl (g_cp I a0 a N a)) = _
    rw [g_cp_self]
  exact k E p l e R s m args below meth c H1 _ ls hC ⟨by rw [hew]; exact hH.1.set (g_w_D hH.2.2.1) hw he ho, by rw [hz]; exact hH.2.1, hH.2.2.1, g_S_cp hH.2.2.2.1 hz ho hLL ((g_w_D hH.2.2.1).2 a _ hw), hH.2.2.2.2⟩ hL
theorem G_copyl {idx a0 a n0 n1 : Nat} {x : Int32} (N : Nat) (hd : decode μ.2.1 pc = .ok (.invokestatic idx, 3)) (hk0 : gk K n a0 (.inr (2, n0))) (hk : gk K n a (.inr (2, n1))) (hl : g_cplink μ.1.cls idx) (hx : x.toNatClampNeg = N ∧ ¬ x < 0) (h0 : N ≤ n0) (h1 : N ≤ n1) (hr : (st.map fun v => v.category).sum ≤ 8) (k : G μ d mc ms post nc ns (K, I, g_cp J a0 a N, P, n) al (pc + 3) st) : G μ d mc ms post nc ns (K, I, J, P, n) al pc (.int x :: .int 0 :: .ref a :: .int 0 :: .ref a0 :: st) := by
  intro E p l e R s m args below meth c H locs ls hC hH hL
  have hts := hC.2.2.2.2.2.1
  have hR := hC.2.2.2.2.2.2.2.2.1
  have hw0 := g_w_at (E := E) (M := (K, I, J, P, n)) hk0.2
  rw [g_cell_a hk0.1] at hw0
  have hw := g_w_at (E := E) (M := (K, I, J, P, n)) hk.2
  rw [g_cell_a hk.1] at hw
  have hT := (hC.2.2.2.2.2.2.2.2.2.1.2 2 _ (g_tys_at E (by decide))).1
  have hn := nfw
  refine h_cp (fun z : Int64 => Value.long z) (f := J a0) (g := J a) hC.1 hC.2.1 (by rw [hC.2.2.2.1]; exact hL.1.symm) hC.2.2.2.2.1 (hts _ hl) (hts _ nat_copy.1) (hts _ nat_copy.2.1) (hts _ nat_copy.2.2) (hH.1 a0 _ hw0) (hT n0 (fun j => .long (J a0 j))) (fun q => by cases q) (by show N ≤ (arrV _ _ _).slots.size; rw [arrV_size]; exact h0) (fun j hj => arrV_read _ _ (show j < n0 by omega)) (hH.1 a _ hw) hT rfl hx.1 hx.2 h1 (fun _ _ => rfl) (fun _ _ q => by cases q) (by rw [hR]; simp only [g_room]; omega) (by rw [hR, g_cats]; simp only [g_room]; omega) hd (fun H1 L hz he ho hLL => ?_)
  have hew : g_w E (K, I, g_cp J a0 a N, P, n) = (g_w E (K, I, J, P, n)).set a (g_ad E a, .inl (E.2.1 2, n1, .inr (.inl (fun j => if j < N then J a0 j else J a j)))) := by
    refine (g_w_set (M := (K, I, J, P, n)) (M' := (K, I, g_cp J a0 a N, P, n)) rfl ?_ (fun b hb => g_cell_congr (M := (K, I, g_cp J a0 a N, P, n)) (M' := (K, I, J, P, n)) rfl rfl (g_cp_ne J hb) rfl)).symm
    rw [g_cell_a (M := (K, I, g_cp J a0 a N, P, n)) hk.1]
    show Sum.inl (E.2.1 2, n1, Sum.inr (Sum.inl (g_cp J a0 a N a))) = _
    rw [g_cp_self]
  exact k E p l e R s m args below meth c H1 _ ls hC ⟨by rw [hew]; exact hH.1.set (g_w_D hH.2.2.1) hw he ho, by rw [hz]; exact hH.2.1, hH.2.2.1, g_S_cp hH.2.2.2.1 hz ho hLL ((g_w_D hH.2.2.1).2 a _ hw), hH.2.2.2.2⟩ hL
theorem G_copyt {idx a n1 : Nat} {x : Int32} (i N : Nat) (hd : decode μ.2.1 pc = .ok (.invokestatic idx, 3)) (hi : i < 4) (hk : gk K n a (.inr (0, n1))) (hl : g_cplink μ.1.cls idx) (hx : x.toNatClampNeg = N ∧ ¬ x < 0) (h0 : N ≤ (g_sl i).length) (h1 : N ≤ n1) (hr : (st.map fun v => v.category).sum ≤ 8) (k : G μ d mc ms post nc ns (K, g_cs I i a N, J, P, n) al (pc + 3) st) : G μ d mc ms post nc ns (K, I, J, P, n) al pc (.int x :: .int 0 :: .ref a :: .int 0 :: .ref (1000000 + i) :: st) := by
  intro E p l e R s m args below meth c H locs ls hC hH hL
  have hts := hC.2.2.2.2.2.1
  have hR := hC.2.2.2.2.2.2.2.2.1
  have hw := g_w_at (E := E) (M := (K, I, J, P, n)) hk.2
  rw [g_cell_a hk.1] at hw
  have hT := (hC.2.2.2.2.2.2.2.2.2.1.2 0 _ (g_tys_at E (by decide))).1
  have hn := nfw
  obtain ⟨cs, q1, q2, q3, q4, -, q6, q7⟩ := (hC.2.2.2.2.2.2.2.2.2.2.1 i hi).2
  have q1' : H[E.2.2.2 i]? = some cs := by rw [hH.2.2.2.1.2.1 _ (Array.getElem?_eq_some_iff.mp q1).1 q7]; exact q1
  simp only [List.map_cons, g_v, g_ad_f]
  refine h_cp (fun z : Int32 => Value.int z) (f := g_sf i) (g := I a) hC.1 hC.2.1 (by rw [hC.2.2.2.1]; exact hL.1.symm) hC.2.2.2.2.1 (hts _ hl) (hts _ nat_copy.1) (hts _ nat_copy.2.1) (hts _ nat_copy.2.2) q1' q2 q3 (by omega) (fun j hj => q6 j (by omega)) (hH.1 a _ hw) hT rfl hx.1 hx.2 h1 (fun _ _ => rfl) (fun _ _ q => by cases q) (by rw [hR]; simp only [g_room]; omega) (by rw [hR, g_cats]; simp only [g_room]; omega) hd (fun H1 L hz he ho hLL => ?_)
  have hew : g_w E (K, g_cs I i a N, J, P, n) = (g_w E (K, I, J, P, n)).set a (g_ad E a, .inl (E.2.1 0, n1, .inl (fun j => if j < N then g_sf i j else I a j))) := by
    refine (g_w_set (M := (K, I, J, P, n)) (M' := (K, g_cs I i a N, J, P, n)) rfl ?_ (fun b hb => g_cell_congr (M := (K, g_cs I i a N, J, P, n)) (M' := (K, I, J, P, n)) rfl (g_cs_ne I hb) rfl rfl)).symm
    rw [g_cell_a (M := (K, g_cs I i a N, J, P, n)) hk.1]
    show Sum.inl (E.2.1 0, n1, Sum.inl (g_cs I i a N a)) = _
    rw [g_cs_self]
  exact k E p l e R s m args below meth c H1 _ ls hC ⟨by rw [hew]; exact hH.1.set (g_w_D hH.2.2.1) hw he ho, by rw [hz]; exact hH.2.1, hH.2.2.1, g_S_cp hH.2.2.2.1 hz ho hLL ((g_w_D hH.2.2.1).2 a _ hw), hH.2.2.2.2⟩ hL
end GCp
