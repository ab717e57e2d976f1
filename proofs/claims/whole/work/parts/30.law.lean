/-! THE LAW: its own judgement -/
def g_CL (E : gE) (p : Program) (s : State) (m : MethodId) (args : Array Value) (meth : Method) (c : Code) : Prop :=
  p.tables.exec = Jvm.exec ∧ c.code = cL_law ∧ meth.sig.returnType = ret ∧ c.maxLocals = 4 ∧ s.vm.findClass RL = some m.cls ∧ (∀ w ∈ g_tb, w.before args s = true) ∧ meth.locks = false ∧ va_K E.1 vwCl (g_tys E) s ∧ g_F E s
def g_XL (E : gE) (b L : Nat) (xs : Nat → Int32) (p : Program) (s : State) (m : MethodId) (meth : Method) (c : Code) : Prop :=
  g_CL E p s m #[Value.ref b] meth c ∧ E.2.2.1 = s.heap.size ∧ va_X b L xs s s.heap ∧ b < s.heap.size ∧ E.2.2.2 98 = b
def GL (b L : Nat) (xs : Nat → Int32) (nc ns : Nat) (M : gMem) (al : List (Option Value)) (pc : Nat) (st : List Value) : Prop :=
  ∀ (E : gE) (p : Program) (l : Launch) (e : Env) (s : State) (m : MethodId) (below : List Frame) (meth : Method) (c : Code) (H : Heap) (locs : List Loc) (ls : Array Slot),
    g_XL E b L xs p s m meth c → g_H E M s H locs → g_L E 4 al ls →
    W p l e room_1 s m #[Value.ref b] below meth c H locs nc ns (lw_Z below #[Value.ref b] s) (F0 m pc ls (st.map (g_v E)))
section GLR
variable {b L : Nat} {xs : Nat → Int32} {nc ns : Nat} {M : gMem} {al : List (Option Value)} {pc : Nat} {st : List Value}
theorem GL_iadd {x y : Int32} (hd : decode cL_law pc = .ok (.iadd, 1))  (k : GL b L xs nc ns M al (pc + 1) (.int (x + y) :: st)) : GL b L xs nc ns M al (pc) (.int y :: .int x :: st) := by
  intro E p l e s m below meth c H locs ls hC hH hL
  exact lv_iadd hC.1.1 hC.1.2.1 hd (k E p l e s m below meth c H locs ls hC hH hL)
theorem GL_isub {x y : Int32} (hd : decode cL_law pc = .ok (.isub, 1))  (k : GL b L xs nc ns M al (pc + 1) (.int (x - y) :: st)) : GL b L xs nc ns M al (pc) (.int y :: .int x :: st) := by
  intro E p l e s m below meth c H locs ls hC hH hL
  exact lv_isub hC.1.1 hC.1.2.1 hd (k E p l e s m below meth c H locs ls hC hH hL)
theorem GL_iand {x y : Int32} (hd : decode cL_law pc = .ok (.iand, 1))  (k : GL b L xs nc ns M al (pc + 1) (.int (x &&& y) :: st)) : GL b L xs nc ns M al (pc) (.int y :: .int x :: st) := by
  intro E p l e s m below meth c H locs ls hC hH hL
  exact lv_iand hC.1.1 hC.1.2.1 hd (k E p l e s m below meth c H locs ls hC hH hL)
theorem GL_land {x y : Int64} (hd : decode cL_law pc = .ok (.land, 1))  (k : GL b L xs nc ns M al (pc + 1) (.long (x &&& y) :: st)) : GL b L xs nc ns M al (pc) (.long y :: .long x :: st) := by
  intro E p l e s m below meth c H locs ls hC hH hL
  exact lv_land hC.1.1 hC.1.2.1 hd (k E p l e s m below meth c H locs ls hC hH hL)
theorem GL_lor {x y : Int64} (hd : decode cL_law pc = .ok (.lor, 1))  (k : GL b L xs nc ns M al (pc + 1) (.long (x ||| y) :: st)) : GL b L xs nc ns M al (pc) (.long y :: .long x :: st) := by
  intro E p l e s m below meth c H locs ls hC hH hL
  exact lv_lor hC.1.1 hC.1.2.1 hd (k E p l e s m below meth c H locs ls hC hH hL)
theorem GL_lshl {x : Int64} {y : Int32} (hd : decode cL_law pc = .ok (.lshl, 1))  (k : GL b L xs nc ns M al (pc + 1) (.long (x <<< (y.toInt64 &&& 63)) :: st)) : GL b L xs nc ns M al (pc) (.int y :: .long x :: st) := by
  intro E p l e s m below meth c H locs ls hC hH hL
  exact lv_lshl hC.1.1 hC.1.2.1 hd rfl (k E p l e s m below meth c H locs ls hC hH hL)
theorem GL_lcmp {x y : Int64} (hd : decode cL_law pc = .ok (.lcmp, 1))  (k : GL b L xs nc ns M al (pc + 1) (.int (lg_cmp x y) :: st)) : GL b L xs nc ns M al (pc) (.long y :: .long x :: st) := by
  intro E p l e s m below meth c H locs ls hC hH hL
  exact W.lcmp hC.1.1 hC.1.2.1 hd (k E p l e s m below meth c H locs ls hC hH hL)
theorem GL_i2l {x : Int32} (hd : decode cL_law pc = .ok (.i2l, 1))  (k : GL b L xs nc ns M al (pc + 1) (.long x.toInt64 :: st)) : GL b L xs nc ns M al (pc) (.int x :: st) := by
  intro E p l e s m below meth c H locs ls hC hH hL
  exact lv_i2l hC.1.1 hC.1.2.1 hd rfl (k E p l e s m below meth c H locs ls hC hH hL)
theorem GL_iconst {n : Int} (v : Int32) (hd : decode cL_law pc = .ok (.iconst n, 1)) (hv : Int32.ofInt n = v) (k : GL b L xs nc ns M al (pc + 1) (.int v :: st)) : GL b L xs nc ns M al (pc) (st) := by
  intro E p l e s m below meth c H locs ls hC hH hL
  exact lv_iconst hC.1.1 hC.1.2.1 hd hv (k E p l e s m below meth c H locs ls hC hH hL)
theorem GL_bipush {n : Int} (v : Int32) (hd : decode cL_law pc = .ok (.bipush n, 2)) (hv : (Int8.ofInt n).toInt32 = v) (k : GL b L xs nc ns M al (pc + 2) (.int v :: st)) : GL b L xs nc ns M al (pc) (st) := by
  intro E p l e s m below meth c H locs ls hC hH hL
  exact lv_bipush hC.1.1 hC.1.2.1 hd hv (k E p l e s m below meth c H locs ls hC hH hL)
theorem GL_ldc2 {index : Nat} (v : Int64) (hd : decode cL_law pc = .ok (.ldc2_w index, 3)) (hw : Cond.constantLong RL index v ∈ g_tb) (k : GL b L xs nc ns M al (pc + 3) (.long v :: st)) : GL b L xs nc ns M al (pc) (st) := by
  intro E p l e s m below meth c H locs ls hC hH hL
  exact lv_ldc2 hC.1.1 hC.1.2.1 hC.1.2.2.2.2.1 (hC.1.2.2.2.2.2.1 _ hw) hd (k E p l e s m below meth c H locs ls hC hH hL)
theorem GL_dup {v : Value} (hd : decode cL_law pc = .ok (.dup, 1)) (hv : v.category = 1) (k : GL b L xs nc ns M al (pc + 1) (v :: v :: st)) : GL b L xs nc ns M al (pc) (v :: st) := by
  intro E p l e s m below meth c H locs ls hC hH hL
  exact lv_dup hC.1.1 hC.1.2.1 hd (by rw [g_v_cat]; exact hv) (k E p l e s m below meth c H locs ls hC hH hL)
theorem GL_iload_n {i : Fin 4} {x : Int32} (hd : decode cL_law pc = .ok (.iload_n i, 1)) (hl : al[(i : Nat)]? = some (some (.int x))) (k : GL b L xs nc ns M al (pc + 1) (.int x :: st)) : GL b L xs nc ns M al (pc) (st) := by
  intro E p l e s m below meth c H locs ls hC hH hL
  exact lv_iload_n hC.1.1 hC.1.2.1 hd rfl (hL.2.2 _ _ hl) (k E p l e s m below meth c H locs ls hC hH hL)
theorem GL_aload_n {i : Fin 4} {x : Nat} (hd : decode cL_law pc = .ok (.aload_n i, 1)) (hl : al[(i : Nat)]? = some (some (.ref x))) (k : GL b L xs nc ns M al (pc + 1) (.ref x :: st)) : GL b L xs nc ns M al (pc) (st) := by
  intro E p l e s m below meth c H locs ls hC hH hL
  exact lv_aload_n (x := g_ad E x) hC.1.1 hC.1.2.1 hd rfl (hL.2.2 _ _ hl) (k E p l e s m below meth c H locs ls hC hH hL)
theorem GL_sld {i : Int32} (hd : decode cL_law pc = .ok (.iaload, 1)) (hin : vp_in i L) (k : GL b L xs nc ns M al (pc + 1) (.int (xs i.toNatClampNeg) :: st)) : GL b L xs nc ns M al (pc) (.int i :: .ref 1000098 :: st) := by
  intro E p l e s m below meth c H locs ls hC hH hL
  have eb : g_ad E 1000098 = b := (g_ad_f E 98).trans hC.2.2.2.2
  simp only [List.map_cons, g_v, eb]
  exact va_sld hC.1.1 hC.1.2.1 hC.2.2.1 hC.2.2.2.1 (show ¬ g_A E b by unfold g_A; rw [hC.2.1]; exact Nat.not_le.mpr hC.2.2.2.1) hH.2.2.2.1 hin hd (k E p l e s m below meth c H locs ls hC hH hL)
theorem GL_slen (hd : decode cL_law pc = .ok (.arraylength, 1)) (k : GL b L xs nc ns M al (pc + 1) (.int (nI L) :: st)) : GL b L xs nc ns M al (pc) (.ref 1000098 :: st) := by
  intro E p l e s m below meth c H locs ls hC hH hL
  have eb : g_ad E 1000098 = b := (g_ad_f E 98).trans hC.2.2.2.2
  simp only [List.map_cons, g_v, eb]
  exact va_slen hC.1.1 hC.1.2.1 hC.2.2.1 hC.2.2.2.1 (show ¬ g_A E b by unfold g_A; rw [hC.2.1]; exact Nat.not_le.mpr hC.2.2.2.1) hH.2.2.2.1 hd (k E p l e s m below meth c H locs ls hC hH hL)
theorem GL_icmp_gt {x y : Int32} {off : Int} (tgt : Nat) (hd : decode cL_law pc = .ok (.if_icmp .gt off, 3)) (ht : (pc : Int) + off = (tgt : Int)) (kt : y < x → GL b L xs nc ns M al (tgt) (st)) (kf : ¬ y < x → GL b L xs nc ns M al (pc + 3) (st)) : GL b L xs nc ns M al (pc) (.int y :: .int x :: st) := by
  intro E p l e s m below meth c H locs ls hC hH hL
  exact lv_icmp_gt hC.1.1 hC.1.2.1 hd ht (fun h => kt h E p l e s m below meth c H locs ls hC hH hL) (fun h => kf h E p l e s m below meth c H locs ls hC hH hL)
theorem GL_icmp_eq {x y : Int32} {off : Int} (tgt : Nat) (hd : decode cL_law pc = .ok (.if_icmp .eq off, 3)) (ht : (pc : Int) + off = (tgt : Int)) (kt : x = y → GL b L xs nc ns M al (tgt) (st)) (kf : ¬ x = y → GL b L xs nc ns M al (pc + 3) (st)) : GL b L xs nc ns M al (pc) (.int y :: .int x :: st) := by
  intro E p l e s m below meth c H locs ls hC hH hL
  exact lv_icmp_eq hC.1.1 hC.1.2.1 hd ht (fun h => kt h E p l e s m below meth c H locs ls hC hH hL) (fun h => kf h E p l e s m below meth c H locs ls hC hH hL)
theorem GL_if_eq {x : Int32} {off : Int} (tgt : Nat) (hd : decode cL_law pc = .ok (.ifCond .eq off, 3)) (ht : (pc : Int) + off = (tgt : Int)) (kt : x = 0 → GL b L xs nc ns M al (tgt) (st)) (kf : ¬ x = 0 → GL b L xs nc ns M al (pc + 3) (st)) : GL b L xs nc ns M al (pc) (.int x :: st) := by
  intro E p l e s m below meth c H locs ls hC hH hL
  exact lv_if_eq hC.1.1 hC.1.2.1 hd ht (fun h => kt h E p l e s m below meth c H locs ls hC hH hL) (fun h => kf h E p l e s m below meth c H locs ls hC hH hL)
theorem GL_goto {off : Int} (tgt : Nat) (hd : decode cL_law pc = .ok (.goto off, 3)) (ht : (pc : Int) + off = (tgt : Int)) (k : GL b L xs nc ns M al (tgt) (st)) : GL b L xs nc ns M al (pc) (st) := by
  intro E p l e s m below meth c H locs ls hC hH hL
  exact lv_goto hC.1.1 hC.1.2.1 hd ht (k E p l e s m below meth c H locs ls hC hH hL)
theorem GL_tableOut {dflt lo hi : Int} {offs : Array Int} {len : Nat} {x : Int32} (tgt : Nat) (hd : decode cL_law pc = .ok (.tableswitch dflt lo hi offs, len)) (h : x.toInt < lo ∨ hi < x.toInt) (ht : (pc : Int) + dflt = (tgt : Int)) (k : GL b L xs nc ns M al (tgt) (st)) : GL b L xs nc ns M al (pc) (.int x :: st) := by
  intro E p l e s m below meth c H locs ls hC hH hL
  exact lv_tableOut hC.1.1 hC.1.2.1 hd h ht (k E p l e s m below meth c H locs ls hC hH hL)
theorem GL_tableIn {dflt lo hi : Int} {offs : Array Int} {len : Nat} {x : Int32} {off : Int} (tgt : Nat) (hd : decode cL_law pc = .ok (.tableswitch dflt lo hi offs, len)) (h1 : ¬ x.toInt < lo) (h2 : ¬ hi < x.toInt) (ho : offs[(x.toInt - lo).toNat]? = some off) (ht : (pc : Int) + off = (tgt : Int)) (k : GL b L xs nc ns M al (tgt) (st)) : GL b L xs nc ns M al (pc) (.int x :: st) := by
  intro E p l e s m below meth c H locs ls hC hH hL
  exact lv_tableIn hC.1.1 hC.1.2.1 hd h1 h2 ho ht (k E p l e s m below meth c H locs ls hC hH hL)
theorem GL_istore_n {i : Fin 4} {x : Int32} (hd : decode cL_law pc = .ok (.istore_n i, 1)) (k : GL b L xs nc ns M (g_s1 al (i : Nat) (.int x)) (pc + 1) (st)) : GL b L xs nc ns M al (pc) (.int x :: st) := by
  intro E p l e s m below meth c H locs ls hC hH hL
  refine lv_istore_n hC.1.1 hC.1.2.1 hd rfl (g_lv_has hL) i.isLt rfl (fun ls1 hl1 => ?_)
  exact k E p l e s m below meth c H locs ls1 hC hH (g_L_s1 (v := .int x) hl1)
theorem GL_astore_n {i : Fin 4} {x : Nat} (hd : decode cL_law pc = .ok (.astore_n i, 1)) (k : GL b L xs nc ns M (g_s1 al (i : Nat) (.ref x)) (pc + 1) (st)) : GL b L xs nc ns M al (pc) (.ref x :: st) := by
  intro E p l e s m below meth c H locs ls hC hH hL
  refine lv_astore_n (x := g_ad E x) hC.1.1 hC.1.2.1 hd rfl (g_lv_has hL) i.isLt rfl (fun ls1 hl1 => ?_)
  exact k E p l e s m below meth c H locs ls1 hC hH (g_L_s1 (v := .ref x) hl1)
theorem GL_iinc {i : Nat} {n : Int} {x : Int32} (v : Int32) (hd : decode cL_law pc = .ok (.iinc i n, 3)) (hl : al[i]? = some (some (.int x))) (hv : x + Int32.ofInt n = v) (hi : i < 4) (k : GL b L xs nc ns M (g_s1 al i (.int v)) (pc + 3) (st)) : GL b L xs nc ns M al (pc) (st) := by
  intro E p l e s m below meth c H locs ls hC hH hL
  obtain ⟨q, hq⟩ := List.getElem?_of_mem (g_lv_mem (E := E) hl)
  refine lv_iinc (x := x) (v := v) (k := q) hC.1.1 hC.1.2.1 hd (g_lv_has hL) hq hv hi rfl (fun ls1 hl1 => ?_)
  exact k E p l e s m below meth c H locs ls1 hC hH (g_L_s1 (v := .int v) hl1)
theorem GL_ret (hd : decode cL_law pc = .ok (.ireturn, 1)) (hn : nc ≤ 600000 ∧ ns ≤ 7302250) : GL b L xs nc ns M al (pc) ([.int 1]) := by
  intro E p l e s m below meth c H locs ls hC hH hL
  refine va_forget (fun q hq => ?_) ?_
  · have := hH.2.2.2.1.2.2 q hq
    unfold g_A at this
    rw [hC.2.1] at this
    exact this
  refine W.widen hn.1 hn.2 ?_
  exact lw_ret hC.1.1 hC.1.2.1 hC.1.2.2.1 hC.1.2.2.2.2.2.2.1 hd
theorem GL_mem {M : gMem} (M' : gMem) (hn : M'.2.2.2.2 = M.2.2.2.2) (h : ∀ a, a < M.2.2.2.2 → g_sameC M M' a) (k : GL b L xs nc ns M' al pc st) : GL b L xs nc ns M al pc st := by
  intro E p l e s m below meth c H locs ls hC hH hL
  exact k E p l e s m below meth c H locs ls hC ⟨g_P_of (fun a ha => g_at_same (h a (by omega)) (hH.1 a _ (g_w_at (by omega)))), by rw [hn]; exact hH.2.1, by rw [hn]; exact hH.2.2.1, hH.2.2.2.1, hH.2.2.2.2⟩ hL
theorem GL_drop (is : List Nat) {al2 : List (Option Value)} (h2 : g_dr al is = al2) (k : GL b L xs nc ns M al2 pc st) : GL b L xs nc ns M al pc st := by
  intro E p l e s m below meth c H locs ls hC hH hL
  refine k E p l e s m below meth c H locs ls hC hH ⟨hL.1, hL.2.1, fun j w hj => hL.2.2 j w (g_dr_at is al j w (by rw [h2]; exact hj))⟩
end GLR
section GLC
variable {b L : Nat} {xs : Nat → Int32} {μ' : gMeth} {d mc' ms' nc ns : Nat} {M : gMem} {al : List (Option Value)} {pc : Nat} {rest av : List Value}
theorem gl_pre {E : gE} {p : Program} {s : State} {m : MethodId} {meth : Method} {c : Code} {H : Heap} {locs : List Loc} (hC : g_XL E b L xs p s m meth c) (hH : g_H E M s H locs) (vs : List Value) : ∀ U : State, U.heap = H → s.WarmedH U.vm → va_Pc vs (fun U => g_At E M U) vs.toArray U := by
  intro U hU hW
  exact ⟨rfl, va_K.moved hW.alike hC.1.2.2.2.2.2.2.2.1, by rw [hU]; exact hH.1, by rw [hU]; exact hH.2.1, hH.2.2.1, g_F.to hW (fun a h1 h2 => by rw [hU]; exact hH.2.2.2.1.2.1 a h1 h2) hC.1.2.2.2.2.2.2.2.2⟩
theorem gl_after {E : gE} {p : Program} {l : Launch} {e : Env} {s : State} {m : MethodId} {below : List Frame} {meth : Method} {c : Code} {H : Heap} {locs : List Loc} {ls : Array Slot} {stk : List Value} {a : Array Value}
    (hC : g_XL E b L xs p s m meth c) (hH : g_H E M s H locs) (hL : g_L E 4 al ls)
    (hr : va_Run p l e room_1 s m #[Value.ref b] below meth c H locs nc ns mc' ms' (F0 m pc ls stk) (rest.map (g_v E)) (g_Q E (fun r M' => GL b L xs (nc + mc') (ns + ms') M' al (pc + 3) (g_push r rest)) a) (g_A E)) :
    W p l e room_1 s m #[Value.ref b] below meth c H locs nc ns (lw_Z below #[Value.ref b] s) (F0 m pc ls stk) := by
  intro T hT X
  obtain ⟨v, st₀, t, T', L', h0, X', hL', e1, e2, ⟨⟨r, M', hv, hp, hP', hz', hn'⟩, hz, hk⟩, st⟩ := hr T hT X
  cases hv
  rw [h0] at hz hk
  obtain ⟨t2, a1, b1⟩ := hp E p l e s m below meth c T'.heap (locs ++ L') ls hC ⟨by rw [e1]; exact hP', by rw [e1]; exact hz', hn', ⟨Nat.le_trans hH.2.2.2.1.1 (by rw [e1]; exact hz), fun q h1 h2 => by
      rw [e1, hk q (Nat.lt_of_lt_of_le h1 hH.2.2.2.1.1) h2]
      exact hH.2.2.2.1.2.1 q h1 h2, fun q hq => by
      rcases List.mem_append.mp hq with h | h
      · exact hH.2.2.2.1.2.2 q h
      · exact hL' q h⟩, hH.2.2.2.2⟩ hL T' rfl X'
  refine ⟨t2, st t2 ?_, b1⟩
  cases r with
  | none => exact a1
  | some v => exact a1
theorem gl_room (hd : d ≤ 11) (h61 : μ'.2.2.1 ≤ 14) : (g_room d mc' ms').frames + 1 ≤ room_1.frames ∧ 8 + (μ'.2.2.1 + 11) + (g_room d mc' ms').locals ≤ room_1.locals := by
  simp only [g_room, room_1]
  omega
theorem GL_callV {K : Nat → gK} {I : gI} {J : gJ} {P : Nat → Nat → Option Nat} {n a ci idx na : Nat} (hm : g_mt μ' na) (hl : Cond.methodLink RL idx μ'.1 ∈ g_tb ∧ Cond.instanceMethod μ'.1 ∈ g_tb ∧ Cond.selects μ'.1.cls μ'.1 μ'.1 ∈ g_tb) (hci : ci < 11 ∧ g_R ci = μ'.1.cls) (hk : gk K n a (.inl ci)) (hd : decode cL_law pc = .ok (.invokevirtual idx, 3)) (hn : av.length = na) (hdd : d ≤ 11) (hc : nc + mc' ≤ 600000 ∧ ns + ms' ≤ 7302250) (hr : (rest.map fun v => v.category).sum ≤ 8)
    (h : gMet μ' d mc' ms' (.ref a :: av) (K, I, J, P, n) (fun r M' => GL b L xs (nc + mc') (ns + ms') M' al (pc + 3) (g_push r rest))) : GL b L xs nc ns (K, I, J, P, n) al pc (av.reverse ++ .ref a :: rest) := by
  intro E p l e s m below meth c H locs ls hC hH hL
  have hts := hC.1.2.2.2.2.2.1
  have hw := g_w_at (E := E) (M := (K, I, J, P, n)) hk.2
  rw [g_cell_o hk.1] at hw
  have hrec := va_recv hC.1.2.2.2.2.2.2.2.1 hH.1 (g_cl ci hci.1) hw
  rw [hci.2] at hrec
  refine gl_after (rest := rest) hC hH hL (va_runV (C := μ'.1.cls) (b := g_ad E a) (As := av.map (g_v E)) (rest := rest.map (g_v E)) ⟨hC.1.1, hC.1.2.1, hC.1.2.2.2.1, hC.1.2.2.2.2.1, hts⟩ (h E l) ⟨callB_of na hts (g_goodws hm.2.2.1) rfl rfl rfl (hts _ hm.2.1) (hts _ hl.1) hm.1 (gl_room hdd hm.2.2.2), hts _ hl.2.1, hts _ hl.2.2⟩ ⟨g_blind, hrec, gl_pre hC hH ((Value.ref a :: av).map (g_v E))⟩ rfl (by rw [List.length_map]; exact hn) hL.1 (by simp [List.map_append, List.map_reverse, g_v]) (lv_room (by simpa [Function.comp_def, g_v_cat] using hr)) hd hc)
theorem GL_callI {a idx na : Nat} (hm : g_mt μ' na) (hret : μ'.2.2.2 = none) (hini : μ'.1.name = "<init>") (hl : Cond.methodLink RL idx μ'.1 ∈ g_tb ∧ Cond.instanceMethod μ'.1 ∈ g_tb) (hd : decode cL_law pc = .ok (.invokespecial idx, 3)) (hn : av.length = na) (hdd : d ≤ 11) (hc : nc + mc' ≤ 600000 ∧ ns + ms' ≤ 7302250) (hr : (rest.map fun v => v.category).sum ≤ 8)
    (h : gMet μ' d mc' ms' (.ref a :: av) M (fun r M' => GL b L xs (nc + mc') (ns + ms') M' al (pc + 3) (g_push r rest))) : GL b L xs nc ns M al pc (av.reverse ++ .ref a :: rest) := by
  intro E p l e s m below meth c H locs ls hC hH hL
  have hts := hC.1.2.2.2.2.2.1
  have hB := callB_of (R := room_1) (ws := g_ws μ') (rm := g_room d mc' ms') na hts (g_goodws hm.2.2.1) rfl rfl rfl (hts _ hm.2.1) (hts _ hl.1) hm.1 (gl_room hdd hm.2.2.2)
  rw [hret] at hB
  refine gl_after (rest := rest) hC hH hL (va_runI (b := g_ad E a) (As := av.map (g_v E)) (rest := rest.map (g_v E)) ⟨hC.1.1, hC.1.2.1, hC.1.2.2.2.1, hC.1.2.2.2.2.1, hts⟩ (h E l) ⟨hB, hini, hts _ hl.2⟩ ⟨g_blind, gl_pre hC hH ((Value.ref a :: av).map (g_v E))⟩ rfl (by rw [List.length_map]; exact hn) hL.1 (by simp [List.map_append, List.map_reverse, g_v]) (lv_room (by simpa [Function.comp_def, g_v_cat] using hr)) hd hc)
theorem GL_new {K : Nat → gK} {I : gI} {J : gJ} {P : Nat → Nat → Option Nat} {n idx ci : Nat} {st : List Value} (hd : decode cL_law pc = .ok (.new idx, 3)) (hci : ci < 11) (hcl : Cond.classLink RL idx (g_R ci) ∈ g_tb) (hin : Cond.instantiable (g_R ci) (g_N ci) ∈ g_tb ∧ Cond.initialized (g_R ci) ∈ g_tb) (hK : K n = .inl ci) (hI : ∀ k, I n k = 0) (hJ : ∀ k, J n k = 0) (hP : ∀ k, P n k = none) (hn : n + 1 ≤ 1000000) (hc : nc + 1 ≤ 600000 ∧ ns + g_N ci ≤ 7302250)
    (k : GL b L xs (nc + 1) (ns + g_N ci) (K, I, J, P, n + 1) al (pc + 3) (.ref n :: st)) : GL b L xs nc ns (K, I, J, P, n) al pc st := by
  intro E p l e s m below meth c H locs ls hC hH hL
  have hts := hC.1.2.2.2.2.2.1
  have hKn := hC.1.2.2.2.2.2.2.2.1.1 ci _ (g_cl ci hci)
  refine W.newcK (n := g_N ci) hC.1.1 hC.1.2.1 hC.1.2.2.2.2.1 (hts _ hcl) (hts _ hin.1) (hts _ hin.2) rfl hd hc.1 hc.2 hKn.2.1 rfl fun H1 kC hkC e1 z1 o1 => ?_
  have had : g_ad E n = H.size := by rw [g_ad_lo E (by omega)]; exact hH.2.1.symm
  have kk := k E p l e s m below meth c H1 locs ls hC ⟨g_P_of (fun a ha => ?_), by rw [z1, hH.2.1]; exact Nat.add_assoc _ _ _, hn, g_S_new hH.2.2.2.1 (by omega) o1, hH.2.2.2.2⟩ hL
  · simp only [List.map_cons, g_v, had] at kk
    exact kk
  · have ha' : a < n + 1 := ha
    by_cases hlt : a < n
    · rw [show g_cell E (K, I, J, P, n + 1) a = g_cell E (K, I, J, P, n) a from g_cell_congr rfl rfl rfl rfl]
      exact (hH.1 a _ (g_w_at hlt)).kept (o1 _ (by rw [g_ad_lo E (by omega), hH.2.1]; show E.2.2.1 + a < E.2.2.1 + n; omega))
    · have e : a = n := by omega
      subst e
      rw [g_cell_o (M := (K, I, J, P, a + 1)) hK, had]
      refine ⟨_, g_cl ci hci, (u_born (g_ty ci) hts (g_inT ci hci) hKn hkC e1 (g_tyok ci hci)).to (fun j hj => ?_)⟩
      have h9 : vp_V (g_fs E (K, I, J, P, a + 1) a ci) j = g_fv E (K, I, J, P, a + 1) a (g_ty ci j) j := by
        unfold vp_V
        rw [List.getD_eq_getElem?_getD, g_fs_at hj]
        rfl
      rw [h9]
      exact (g_fv_0 (g_ty_nf ci hci j hj) (hI j) (hJ j) (hP j)).symm
end GLC
