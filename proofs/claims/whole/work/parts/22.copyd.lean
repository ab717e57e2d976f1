/-! a copy that begins further on -/
def g_csd (f : gI) (i dst N D : Nat) : gI := fun b => if b = dst then (fun j => if D ≤ j ∧ j < D + N then g_sf i (j - D) else f dst j) else f b
theorem g_csd_ne (f : gI) {i dst N D b : Nat} (h : b ≠ dst) : g_csd f i dst N D b = f b := by simp [g_csd, h]
theorem g_csd_self (f : gI) (i dst N D : Nat) : g_csd f i dst N D dst = fun j => if D ≤ j ∧ j < D + N then g_sf i (j - D) else f dst j := by simp [g_csd]
section HCd
variable {p : Program} {l : Launch} {e : Env} {R : Room} {s : State} {m : MethodId} {args : Array Value} {below : List Frame} {meth : Method} {c : Code} {H : Heap} {locs : List Loc} {cells slots : Nat} {Q : State → Prop}
variable {cc : ByteArray} {pc : Nat} {ls : Array Slot} {rest : List Value}
theorem h_cpd {α : Type} (mk : α → Value) (hexec : p.tables.exec = Jvm.exec) (hb : c.code = cc) (hml : c.maxLocals = ls.size) {own : String} {index : Nat} (hown : s.vm.findClass own = some m.cls) (hlink : (Cond.methodLink own index arraycopyName).before args s = true) (hnat : (Cond.native arraycopyName).before args s = true) (hstat : (Cond.static arraycopyName).before args s = true) (hini : (Cond.initialized "java/lang/System").before args s = true)
    {a0 a N n1 D : Nat} {z : Int32} (hz1 : z.toNatClampNeg = D) (hz2 : ¬ z < 0) {cs : Cell} {c1 : ClassId} {f g : Nat → α} {ty : FieldType} {n : Int32} (hcs : H[a0]? = some cs) (hof : s.isArrayOf cs ty) (hkn : cs.vm ≠ .unknown) (hsz : N ≤ cs.slots.size) (hrd : ∀ j : Nat, j < N → cs.slots[j]? = some (mk (f j))) (hcd : H[a]? = some (arrV c1 n1 (fun j => mk (g j)))) (hod : ArrOfT s c1 ty) (hprim : refKind ty = false) (hn : n.toNatClampNeg = N) (hn0 : ¬ n < 0) (h1 : D + N ≤ n1) (hfit : ∀ i, i < N → fits ty (mk (f i)) = true) (hnr : ∀ i, ∀ q : Nat, mk (f i) ≠ .ref q)
    (hframes : 1 ≤ R.frames) (hlocals : (rest.map fun v => v.category).sum + (nativeFrameWords "java/lang/System" "arraycopy" 5 + 11) ≤ R.locals) (hdg : decode cc pc = .ok (.invokestatic index, 3))
    (kk : ∀ (H1 : Heap) (L : List Loc), H1.size = H.size → H1[a]? = some (arrV c1 n1 (fun j => mk (if D ≤ j ∧ j < D + N then f (j - D) else g j))) → (∀ q : Nat, q ≠ a → H1[q]? = H[q]?) → (∀ q ∈ L, q.base = a) → W p l e R s m args below meth c H1 (locs ++ L) cells slots Q (F0 m (pc + 3) ls rest)) :
    W p l e R s m args below meth c H locs cells slots Q (F0 m pc ls (.int n :: .int z :: .ref a :: .int 0 :: .ref a0 :: rest)) := by
  have hni : n.toInt = (N : Int) := by
    have hz0 : (0 : Int) ≤ n.toInt := by
      have := Int32.not_lt.mp hn0
      simpa using Int32.le_iff_toInt_le.mp this
    have : n.toInt.toNat = N := hn
    omega
  have hzi : z.toInt = (D : Int) := by
    have hz0 : (0 : Int) ≤ z.toInt := by
      have := Int32.not_lt.mp hz2
      simpa using Int32.le_iff_toInt_le.mp this
    have : z.toInt.toNat = D := hz1
    omega
  intro T hT X
  obtain ⟨hs6, k0, hk0, cm0, hkk0⟩ := hof
  obtain ⟨-, k1, hk1, cm1, hkk1⟩ := hod n1 (fun j => mk (g j))
  have z0 : (0 : Int32).toNatClampNeg = 0 := by decide
  have zi : (0 : Int32).toInt = 0 := by decide
  obtain ⟨vm', X', step⟩ := X.arraycopy hexec hown hlink hnat hstat hini (src := a0) (dst := a) (cs := cs) (cd := arrV c1 n1 (fun j => mk (g j))) (srcPos := 0) (destPos := z) (n := n) (by rw [hT]; exact hcs) (by rw [hT]; exact hcd)
    hs6 (fun _ h => by cases h) hkn (fun h => by cases h) hk0 hk1 hkk0 hkk1 (by simp [hprim]) (by decide) hz2 hn0
    (by rw [hni, zi]; omega) (by rw [hni, hzi, arrV_size]; omega)
    (fun vm₁ _ i hi => by
      rw [hn] at hi
      have ee : cs.slots.getD ((0 : Int32).toNatClampNeg + i) .null = mk (f i) := by
        rw [z0, Nat.zero_add, Array.getD_eq_getD_getElem?, hrd _ hi]
        rfl
      rw [ee]
      refine ⟨hfit i hi, ?_⟩
      cases hm : mk (f i) with
      | ref q => exact absurd hm (hnr i q)
      | _ => exact trivial)
    (g := F0 m pc ls (.int n :: .int z :: .ref a :: .int 0 :: .ref a0 :: rest)) rfl (by rw [hml]) (rest := rest) rfl (by rw [hb]; exact hdg) hframes (by show 2 * 0 + _ + _ ≤ _; omega)
  have e1 : copied cs (arrV c1 n1 (fun j => mk (g j))) 0 z n = arrV c1 n1 (fun j => mk (if D ≤ j ∧ j < D + N then f (j - D) else g j)) := by
    have h := va_copiedX mk cs c1 (n0 := N) (n1 := n1) (sp := 0) (dp := D) (n := N) f g hrd (by omega)
    refine Eq.trans ?_ (h.trans ?_)
    · show (arrV c1 n1 (fun j => mk (g j))).storeRun z.toNatClampNeg (cs.stretch (0 : Int32).toNatClampNeg n.toNatClampNeg) = _
      rw [z0, hn, hz1]
    · congr 1
      funext j
      simp [va_cpy]
  rw [e1] at X' step
  have hl : a < H.size := (Array.getElem?_eq_some_iff.mp hcd).1
  generalize hG : H.setIfInBounds a (arrV c1 n1 (fun j => mk (if D ≤ j ∧ j < D + N then f (j - D) else g j))) = H1
  have hheap : ((T.setVm vm').setCell a (arrV c1 n1 (fun j => mk (if D ≤ j ∧ j < D + N then f (j - D) else g j)))).heap = H1 := by rw [← hG, ← hT]; rfl
  obtain ⟨t, a1, b1⟩ := kk H1 _ (by rw [← hG]; simp) (by rw [← hG]; simp [Array.getElem?_setIfInBounds, hl]) (fun q hq => by rw [← hG]; simp [Array.getElem?_setIfInBounds, Ne.symm hq]) (fun q hq => by
    obtain ⟨z, -, hz⟩ := List.mem_map.mp hq
    rw [← hz]) _ hheap X'
  exact ⟨t, step t a1, b1⟩
end HCd
section GCpd
variable {μ : gMeth} {d mc ms : Nat} {post : gPost} {nc ns : Nat} {K : Nat → gK} {I : Nat → Nat → Int32} {J : Nat → Nat → Int64} {P : Nat → Nat → Option Nat} {n : Nat} {al : List (Option Value)} {pc : Nat} {st : List Value}
theorem G_copytd {idx a n1 : Nat} {x z : Int32} (i N D : Nat) (hd : decode μ.2.1 pc = .ok (.invokestatic idx, 3)) (hi : i < 4) (hk : gk K n a (.inr (0, n1))) (hl : g_cplink μ.1.cls idx) (hx : x.toNatClampNeg = N ∧ ¬ x < 0) (hz : z.toNatClampNeg = D ∧ ¬ z < 0) (h0 : N ≤ (g_sl i).length) (h1 : D + N ≤ n1) (hr : (st.map fun v => v.category).sum ≤ 8) (k : G μ d mc ms post nc ns (K, g_csd I i a N D, J, P, n) al (pc + 3) st) : G μ d mc ms post nc ns (K, I, J, P, n) al pc (.int x :: .int z :: .ref a :: .int 0 :: .ref (1000000 + i) :: st) := by
  intro E p l e R s m args below meth c H locs ls hC hH hL
  have hts := hC.2.2.2.2.2.1
  have hR := hC.2.2.2.2.2.2.2.2.1
  have hw := g_w_at (E := E) (M := (K, I, J, P, n)) hk.2
  rw [g_cell_a hk.1] at hw
  have hT := (hC.2.2.2.2.2.2.2.2.2.1.2 0 _ (g_tys_at E (by decide))).1
  have hn := nfw
  obtain ⟨cs, q1, q2, q3, q4, -, q6, q7⟩ := (hC.2.2.2.2.2.2.2.2.2.2.1 i hi).2
  have q1' : H[E.2.2.2 i]? = some cs := by rw [hH.2.2.2.1.2.1 _ (Array.getElem?_eq_some_iff.mp q1).1 q7]; exact q1
  simp only [List.map_cons, g_v, g_ad_f]
  refine h_cpd (fun z : Int32 => Value.int z) (hz1 := hz.1) (hz2 := hz.2) (f := g_sf i) (g := I a) hC.1 hC.2.1 (by rw [hC.2.2.2.1]; exact hL.1.symm) hC.2.2.2.2.1 (hts _ hl) (hts _ nat_copy.1) (hts _ nat_copy.2.1) (hts _ nat_copy.2.2) q1' q2 q3 (by omega) (fun j hj => q6 j (by omega)) (hH.1 a _ hw) hT rfl hx.1 hx.2 h1 (fun _ _ => rfl) (fun _ _ q => by cases q) (by rw [hR]; simp only [g_room]; omega) (by rw [hR, g_cats]; simp only [g_room]; omega) hd (fun H1 L hzz he ho hLL => ?_)
  have hew : g_w E (K, g_csd I i a N D, J, P, n) = (g_w E (K, I, J, P, n)).set a (g_ad E a, .inl (E.2.1 0, n1, .inl (fun j => if D ≤ j ∧ j < D + N then g_sf i (j - D) else I a j))) := by
    refine (g_w_set (M := (K, I, J, P, n)) (M' := (K, g_csd I i a N D, J, P, n)) rfl ?_ (fun b hb => g_cell_congr (M := (K, g_csd I i a N D, J, P, n)) (M' := (K, I, J, P, n)) rfl (g_csd_ne I hb) rfl rfl)).symm
    rw [g_cell_a (M := (K, g_csd I i a N D, J, P, n)) hk.1]
    show Sum.inl (E.2.1 0, n1, Sum.inl (g_csd I i a N D a)) = _
    rw [g_csd_self]
  exact k E p l e R s m args below meth c H1 _ ls hC ⟨by rw [hew]; exact hH.1.set (g_w_D hH.2.2.1) hw he ho, by rw [hzz]; exact hH.2.1, hH.2.2.1, g_S_cp hH.2.2.2.1 hzz ho hLL ((g_w_D hH.2.2.1).2 a _ hw), hH.2.2.2.2⟩ hL
end GCpd
def g_sameB (M M' : gMem) : Bool := (List.range M.2.2.2.2).all (fun a => decide (M.1 a = M'.1 a) && (List.range (match M.1 a with | .inl ci => g_N ci | .inr q => q.2)).all (fun k => decide (M.2.1 a k = M'.2.1 a k) && (decide (M.2.2.1 a k = M'.2.2.1 a k) && decide (M.2.2.2.1 a k = M'.2.2.2.1 a k))))
theorem g_sameB_ok {M M' : gMem} (h : g_sameB M M' = true) : ∀ a, a < M.2.2.2.2 → g_sameC M M' a := by
  intro a ha
  have h1 := List.all_eq_true.mp h a (List.mem_range.mpr ha)
  rw [Bool.and_eq_true, decide_eq_true_eq] at h1
  refine ⟨h1.1, ?_⟩
  have h2 := List.all_eq_true.mp h1.2
  cases hk : M.1 a with
  | inl ci =>
    intro k hk9
    have h3 := h2 k (List.mem_range.mpr (by rw [hk]; exact hk9))
    simp only [Bool.and_eq_true, decide_eq_true_eq] at h3
    exact h3
  | inr q =>
    intro k hk9
    have h3 := h2 k (List.mem_range.mpr (by rw [hk]; exact hk9))
    simp only [Bool.and_eq_true, decide_eq_true_eq] at h3
    exact h3
