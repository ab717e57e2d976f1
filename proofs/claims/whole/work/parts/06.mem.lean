/-! rows of the worlds with the heap's size kept -/
section HR
variable {p : Program} {l : Launch} {e : Env} {R : Room} {s : State} {m : MethodId} {args : Array Value} {below : List Frame} {meth : Method} {c : Code} {H : Heap} {locs : List Loc} {cells slots : Nat} {Q : State → Prop}
variable {cc : ByteArray} {pc : Nat} {ls : Array Slot} {rest : List Value} {D : va_G} {cl : List vw_C} {A : Nat → Prop} {a : Nat} {tys : List (ClassId × FieldType)} {ws : va_W} {H0 : Heap}
theorem h_put (hexec : p.tables.exec = Jvm.exec) (hb : c.code = cc) {own ref C : String} {T : u_T} {N ci index : Nat} {Ts : List Cond} (hts : ∀ w ∈ Ts, w.before args s = true) (hin : ∀ w ∈ u_ws C T N, w ∈ Ts) (ty0 : Nat → FieldType) (hty : ∀ k, k < N → parseFieldDescriptor (T k).2.2.1 = some (ty0 k)) (hnm : ∀ a, a < N → ∀ b, b < N → a ≠ b → (T a).2.1 ≠ (T b).2.1) (hown : s.vm.findClass own = some m.cls) (hK : va_K D cl tys s) (hP : va_P D cl ws H) (hD : va_D A ws) (hS0 : va_S A H0 H locs) (q0 : Nat) {fs : List Value} (he : ws[q0]? = some (a, .inr (ci, fs))) (hc : cl[ci]? = some (C, T, N)) (k : Nat) (hk : k < N) (hlink : (Cond.fieldLink own index ref (T k).2.1 (T k).2.2.1).before args s = true) (hsame : ∀ x, s.fieldFound? (T k).1 (T k).2.1 (T k).2.2.1 = some x → s.fieldFound? ref (T k).2.1 (T k).2.2.1 = some x) (hfin : (T k).2.2.2 = false ∨ ((T k).2.2.2 = true ∧ meth.name = "<init>" ∧ (T k).1 = own)) {ty : FieldType} {v : Value} (hd : parseFieldDescriptor (T k).2.2.1 = some ty) (hn : narrow ty v = v) (hfit : fits ty v = true) (hl : k < fs.length)
    (hdg : decode cc pc = .ok (.putfield index, 3)) (kk : ∀ (H1 : Heap) (locs1 : List Loc), H1.size = H.size → va_P D cl (ws.set q0 (a, .inr (ci, fs.set k v))) H1 → va_S A H0 H1 locs1 → W p l e R s m args below meth c H1 locs1 cells slots Q (F0 m (pc + 3) ls rest)) : W p l e R s m args below meth c H locs cells slots Q (F0 m pc ls (v :: .ref a :: rest)) := by
  have hap := va_apart (own := own) hts hin ty0 hty hnm hK hc
  obtain ⟨r, h1, cell, q1, q2, q3, q4⟩ := hP q0 _ he
  have hr : r = (C, T, N) := Option.some.inj (h1.symm.trans hc)
  subst hr
  obtain ⟨hS, hfc, kC, hkC, hkind⟩ := hK.1 ci _ hc
  obtain ⟨cf, kf, fi, f, hi, hsl⟩ := hS k hk
  have hlay := hts _ (hin _ (u_in_lay hk))
  unfold u_lay at hlay
  have hst := (u_facts hfc hkC (u_lays hts hin hk) hi).1
  rcases hfin with hfin | ⟨hfin, hin2, hdecl⟩
  · rw [if_neg (by rw [hfin]; decide)] at hlay
    have h6 := u_store hfc hkC hkind hlay hi hd hn hfit
    refine W.putK hexec hb (f := f) ⟨hown, hlink, ⟨_, _, _, hsame _ hi⟩, hst⟩ (by rw [q2]; exact h6) q1 q3 (by rw [hsl]; exact k2_hasslot (q4 k hk)) rfl rfl hdg fun H' e1 e2 e3 => ?_
    rw [hsl] at e1 ⊢
    exact kk H' _ e2 (hP.set hD he ⟨_, hc, t_OB.to (V := updV (vp_V fs) k v) ⟨_, e1, q2, q3, t_set q4 hap hk v⟩ (fun j _ => vp_updV_set hl v j)⟩ e3) (hS0.put e2 e3 (hD.2 q0 _ he))
  · rw [if_pos hfin] at hlay
    have hcf : m.cls = cf := by
      obtain ⟨_, _, c', _, _, _, -, -, hf', -, -, -, hown2, -⟩ := Cond.laysFinal_spec hlay
      have e1 : c' = cf := by have := hi.symm.trans hf'; simp at this; exact this.1.symm
      rw [hdecl] at hown2
      rw [← e1]; exact Option.some.inj (hown.symm.trans hown2)
    have h6 := u_fits hfc hkC hkind (Or.inr hlay) hi hd hn hfit
    refine W.putFinK hexec hb hown hlink (hsame _ hi) hst hcf hin2 (by rw [q2]; exact h6) q1 q3 (by rw [hsl]; exact k2_hasslot (q4 k hk)) rfl rfl hdg fun H' e1 e2 e3 => ?_
    rw [hsl] at e1 ⊢
    exact kk H' _ e2 (hP.set hD he ⟨_, hc, t_OB.to (V := updV (vp_V fs) k v) ⟨_, e1, q2, q3, t_set q4 hap hk v⟩ (fun j _ => vp_updV_set hl v j)⟩ e3) (hS0.put e2 e3 (hD.2 q0 _ he))
theorem h_iast (hexec : p.tables.exec = Jvm.exec) (hb : c.code = cc) (hK : va_K D cl tys s) (hP : va_P D cl ws H) (hD : va_D A ws) (hS : va_S A H0 H locs) (q0 t0 : Nat) {cA : ClassId} {n : Nat} {f : Nat → Int32} (ha : ws[q0]? = some (a, .inl (cA, n, .inl f))) (ht : tys[t0]? = some (cA, .int)) {i : Int32} {x : Int32} (hin : vp_in i n) (hdg : decode cc pc = .ok (.iastore, 1))
    (kk : ∀ (H1 : Heap) (locs1 : List Loc), H1.size = H.size → va_P D cl (ws.set q0 (a, .inl (cA, n, .inl (fun j => if j = i.toNatClampNeg then x else f j)))) H1 → va_S A H0 H1 locs1 → W p l e R s m args below meth c H1 locs1 cells slots Q (F0 m (pc + 1) ls rest)) : W p l e R s m args below meth c H locs cells slots Q (F0 m pc ls (.int x :: .int i :: .ref a :: rest)) := by
  refine W.iast hexec hb (hP q0 _ ha) ((hK.2 t0 _ ht).1 n (fun j => .int (f j))) (fun q => by cases q) (by show ¬ (i < 0 ∨ (arrV _ _ _).slots.size ≤ _); rw [arrV_size]; exact hin) rfl rfl hdg fun H1 e z oq => ?_
  refine kk H1 _ z (hP.set hD ha ?_ oq) (hS.put z oq (hD.2 q0 _ ha))
  show H1[a]? = some (vp_cell _ _)
  rw [e]
  rw [vp_cell_i, vp_cell_i, arrV_store]
  congr 2
  funext q
  by_cases hq : q = i.toNatClampNeg
  · subst hq
    simp [updV]
  · simp [updV, hq]
theorem h_zast (hexec : p.tables.exec = Jvm.exec) (hb : c.code = cc) (hK : va_K D cl tys s) (hP : va_P D cl ws H) (hD : va_D A ws) (hS : va_S A H0 H locs) (q0 t0 : Nat) {cA : ClassId} {n : Nat} {f : Nat → Int32} (ha : ws[q0]? = some (a, .inl (cA, n, .inl f))) (ht : tys[t0]? = some (cA, .boolean)) {i : Int32} {x : Int32} (hin : vp_in i n) (hdg : decode cc pc = .ok (.bastore, 1))
    (kk : ∀ (H1 : Heap) (locs1 : List Loc), H1.size = H.size → va_P D cl (ws.set q0 (a, .inl (cA, n, .inl (fun j => if j = i.toNatClampNeg then x &&& 1 else f j)))) H1 → va_S A H0 H1 locs1 → W p l e R s m args below meth c H1 locs1 cells slots Q (F0 m (pc + 1) ls rest)) : W p l e R s m args below meth c H locs cells slots Q (F0 m pc ls (.int x :: .int i :: .ref a :: rest)) := by
  refine W.zast hexec hb (hP q0 _ ha) ((hK.2 t0 _ ht).1 n (fun j => .int (f j))) (fun q => by cases q) (by show ¬ (i < 0 ∨ (arrV _ _ _).slots.size ≤ _); rw [arrV_size]; exact hin) rfl rfl hdg fun H1 e z oq => ?_
  refine kk H1 _ z (hP.set hD ha ?_ oq) (hS.put z oq (hD.2 q0 _ ha))
  show H1[a]? = some (vp_cell _ _)
  rw [e]
  rw [vp_cell_i, vp_cell_i, arrV_store]
  congr 2
  funext q
  by_cases hq : q = i.toNatClampNeg
  · subst hq
    simp [updV, narrow]
    try rfl
  · simp [updV, hq]
theorem h_last (hexec : p.tables.exec = Jvm.exec) (hb : c.code = cc) (hK : va_K D cl tys s) (hP : va_P D cl ws H) (hD : va_D A ws) (hS : va_S A H0 H locs) (q0 t0 : Nat) {cA : ClassId} {n : Nat} {f : Nat → Int64} (ha : ws[q0]? = some (a, .inl (cA, n, .inr (.inl f)))) (ht : tys[t0]? = some (cA, .long)) {i : Int32} {x : Int64} (hin : vp_in i n) (hdg : decode cc pc = .ok (.lastore, 1))
    (kk : ∀ (H1 : Heap) (locs1 : List Loc), H1.size = H.size → va_P D cl (ws.set q0 (a, .inl (cA, n, .inr (.inl (fun j => if j = i.toNatClampNeg then x else f j))))) H1 → va_S A H0 H1 locs1 → W p l e R s m args below meth c H1 locs1 cells slots Q (F0 m (pc + 1) ls rest)) : W p l e R s m args below meth c H locs cells slots Q (F0 m pc ls (.long x :: .int i :: .ref a :: rest)) := by
  refine W.last hexec hb (hP q0 _ ha) ((hK.2 t0 _ ht).1 n (fun j => .long (f j))) (fun q => by cases q) (by show ¬ (i < 0 ∨ (arrV _ _ _).slots.size ≤ _); rw [arrV_size]; exact hin) rfl rfl hdg fun H1 e z oq => ?_
  refine kk H1 _ z (hP.set hD ha ?_ oq) (hS.put z oq (hD.2 q0 _ ha))
  show H1[a]? = some (vp_cell _ _)
  rw [e]
  rw [vp_cell_l, vp_cell_l, arrV_store]
  congr 2
  funext q
  by_cases hq : q = i.toNatClampNeg
  · subst hq
    simp [updV]
  · simp [updV, hq]
theorem h_astq (hexec : p.tables.exec = Jvm.exec) (hb : c.code = cc) (hK : va_K D cl tys s) (hP : va_P D cl ws H) (hD : va_D A ws) (hS : va_S A H0 H locs) (q0 t0 qk ci : Nat) {cA : ClassId} {r : vw_C} {n v : Nat} {vs : List Value} {f : Nat → Option Nat} (ha : ws[q0]? = some (a, .inl (cA, n, .inr (.inr (.inr (.inr f)))))) (ht : tys[t0]? = some (cA, .object r.1)) (hv : ws[qk]? = some (v, .inr (ci, vs))) (hc : cl[ci]? = some r) {i : Int32} (hin : vp_in i n) (hdg : decode cc pc = .ok (.aastore, 1))
    (kk : ∀ (H1 : Heap) (locs1 : List Loc), H1.size = H.size → va_P D cl (ws.set q0 (a, .inl (cA, n, .inr (.inr (.inr (.inr (fun j => if j = i.toNatClampNeg then some v else f j))))))) H1 → va_S A H0 H1 locs1 → W p l e R s m args below meth c H1 locs1 cells slots Q (F0 m (pc + 1) ls rest)) : W p l e R s m args below meth c H locs cells slots Q (F0 m pc ls (.ref v :: .int i :: .ref a :: rest)) := by
  have hlt : i.toNatClampNeg < n := Nat.not_le.mp fun q => hin (Or.inr q)
  have h0 : ¬ i < 0 := fun q => hin (Or.inl q)
  obtain ⟨r', hr', cellV, g1, g2, g3, -⟩ := hP qk _ hv
  have hcls := (hK.1 ci r hc).2
  obtain ⟨kA, comp, k1, k2, k3, -⟩ := (hK.2 t0 _ ht).2
  have hcomp : comp = D.1 ci := Option.some.inj (k3.symm.trans hcls.1)
  subst hcomp
  obtain ⟨kC, hkC, -⟩ := hcls.2
  refine W.aast hexec hb (hP q0 _ ha) (fun q h => by cases h) (fun h => by cases h) k1 k2 rfl hkC ⟨h0, by show _ < (arrV _ _ _).slots.size; rw [arrV_size]; exact hlt⟩ g1 (fun q h => by rw [g3] at h; cases h) (by rw [g2]; exact hkC) (by rw [g2]; exact va_assign hcls) rfl rfl hdg fun H1 e z oq => ?_
  refine kk H1 _ z (hP.set hD ha ?_ oq) (hS.put z oq (hD.2 q0 _ ha))
  show H1[a]? = some (vp_cell _ _)
  rw [e]
  rw [vp_cell_q, vp_cell_q, arrV_store]
  congr 2
  funext q
  by_cases hq : q = i.toNatClampNeg
  · subst hq
    simp [updV, va_rf]
  · simp [updV, hq]
end HR
/-! memory rules of G -/
abbrev gk (K : Nat → gK) (n a : Nat) (kd : gK) : Prop := K a = kd ∧ a < n
def g_ik (ty : FieldType) : Nat := match ty with
  | .long => 1
  | .object _ => 2
  | .array _ => 2
  | _ => 0
theorem g_fv_i {E : gE} {M : gMem} {a k : Nat} {ty : FieldType} (h : g_ik ty = 0) : g_fv E M a ty k = .int (M.2.1 a k) := by
  cases ty <;> first | rfl | (simp [g_ik] at h)
theorem g_fv_l {E : gE} {M : gMem} {a k : Nat} {ty : FieldType} (h : g_ik ty = 1) : g_fv E M a ty k = .long (M.2.2.1 a k) := by
  cases ty <;> first | rfl | (simp [g_ik] at h)
theorem g_fv_r {E : gE} {M : gMem} {a k : Nat} {ty : FieldType} (h : g_ik ty = 2) : g_fv E M a ty k = va_rf ((M.2.2.2.1 a k).map (g_ad E)) := by
  cases ty <;> first | rfl | (simp [g_ik] at h)
theorem g_fs_at {E : gE} {M : gMem} {a ci k : Nat} (h : k < g_N ci) : (g_fs E M a ci)[k]? = some (g_fv E M a (g_ty ci k) k) := by
  unfold g_fs
  rw [List.getElem?_map, List.getElem?_range h]
  rfl
theorem g_fs_len (E : gE) (M : gMem) (a ci : Nat) : (g_fs E M a ci).length = g_N ci := by simp [g_fs]
theorem g_fs_put {E : gE} {M M' : gMem} {a ci k : Nat} {v : Value} (hk : g_fv E M' a (g_ty ci k) k = v) (ho : ∀ j, j ≠ k → g_fv E M' a (g_ty ci j) j = g_fv E M a (g_ty ci j) j) : g_fs E M' a ci = (g_fs E M a ci).set k v := by
  apply List.ext_getElem?
  intro j
  rw [List.getElem?_set]
  by_cases hj : j < g_N ci
  · rw [g_fs_at hj, g_fs_at hj]
    by_cases e : k = j
    · subst e
      rw [if_pos rfl, if_pos (by rw [g_fs_len]; exact hj), hk]
    · rw [if_neg e, ho j (fun q => e q.symm)]
  · have h1 : (g_fs E M' a ci)[j]? = none := List.getElem?_eq_none (by rw [g_fs_len]; omega)
    have h2 : (g_fs E M a ci)[j]? = none := List.getElem?_eq_none (by rw [g_fs_len]; omega)
    rw [h1, h2]
    by_cases e : k = j
    · subst e
      rw [if_pos rfl, if_neg (by rw [g_fs_len]; exact hj)]
    · rw [if_neg e]
theorem g_cell_congr {E : gE} {M M' : gMem} {b : Nat} (h1 : M.1 b = M'.1 b) (h2 : M.2.1 b = M'.2.1 b) (h3 : M.2.2.1 b = M'.2.2.1 b) (h4 : M.2.2.2.1 b = M'.2.2.2.1 b) : g_cell E M b = g_cell E M' b := by
  have hf : ∀ ci, g_fs E M b ci = g_fs E M' b ci := by
    intro ci
    unfold g_fs
    apply List.map_congr_left
    intro k _
    unfold g_fv
    rw [h2, h3, h4]
  have ha : ∀ t, g_arr E M b t = g_arr E M' b t := by
    intro t
    unfold g_arr
    rw [h2, h3, h4]
  unfold g_cell
  rw [h1]
  cases M'.1 b with
  | inl ci => simp only [hf]
  | inr q => simp only [ha]
theorem g_cell_o {E : gE} {M : gMem} {a ci : Nat} (h : M.1 a = .inl ci) : g_cell E M a = .inr (ci, g_fs E M a ci) := by
  unfold g_cell
  rw [h]
theorem g_cell_a {E : gE} {M : gMem} {a t n : Nat} (h : M.1 a = .inr (t, n)) : g_cell E M a = .inl (E.2.1 t, n, g_arr E M a t) := by
  unfold g_cell
  rw [h]
def g_fl (own : String) (idx ci k : Nat) : Prop := ci < 11 ∧ k < g_N ci ∧ Cond.fieldLink own idx (g_T ci k).1 (g_T ci k).2.1 (g_T ci k).2.2.1 ∈ g_tb
def g_ok (ty : FieldType) (v : Value) : Prop := narrow ty v = v ∧ fits ty v = true
section GM
variable {μ : gMeth} {d mc ms : Nat} {post : gPost} {nc ns : Nat} {K : Nat → gK} {I : Nat → Nat → Int32} {J : Nat → Nat → Int64} {P : Nat → Nat → Option Nat} {n : Nat} {al : List (Option Value)} {pc : Nat} {st : List Value}
theorem G_getv {a ci k idx : Nat} {v : Value} (hl : g_fl μ.1.cls idx ci k) (hd : decode μ.2.1 pc = .ok (.getfield idx, 3)) (hk : gk K n a (.inl ci)) (hv : ∀ E : gE, g_fv E (K, I, J, P, n) a (g_ty ci k) k = g_v E v) (kk : G μ d mc ms post nc ns (K, I, J, P, n) al (pc + 3) (v :: st)) : G μ d mc ms post nc ns (K, I, J, P, n) al pc (.ref a :: st) := by
  intro E p l e R s m args below meth c H locs ls hC hH hL
  obtain ⟨h1, h2, h3⟩ := hl
  have hw := g_w_at (E := E) (M := (K, I, J, P, n)) hk.2
  rw [g_cell_o hk.1] at hw
  have hts := hC.2.2.2.2.2.1
  exact va_get (C := g_R ci) (T := g_T ci) (N := g_N ci) hC.1 hC.2.1 hts (g_inT ci h1) hC.2.2.2.2.1 hC.2.2.2.2.2.2.2.2.2.1 hH.1 a hw (g_cl ci h1) k h2 (hts _ h3) (fun _ h => h) (by rw [g_fs_at h2, hv E]) hd (kk E p l e R s m args below meth c H locs ls hC hH hL)
theorem G_geti {a ci k idx : Nat} (hl : g_fl μ.1.cls idx ci k) (hd : decode μ.2.1 pc = .ok (.getfield idx, 3)) (hk : gk K n a (.inl ci)) (ht : g_ik (g_ty ci k) = 0) (kk : G μ d mc ms post nc ns (K, I, J, P, n) al (pc + 3) (.int (I a k) :: st)) : G μ d mc ms post nc ns (K, I, J, P, n) al pc (.ref a :: st) :=
  G_getv hl hd hk (fun _ => g_fv_i ht) kk
theorem G_getl {a ci k idx : Nat} (hl : g_fl μ.1.cls idx ci k) (hd : decode μ.2.1 pc = .ok (.getfield idx, 3)) (hk : gk K n a (.inl ci)) (ht : g_ik (g_ty ci k) = 1) (kk : G μ d mc ms post nc ns (K, I, J, P, n) al (pc + 3) (.long (J a k) :: st)) : G μ d mc ms post nc ns (K, I, J, P, n) al pc (.ref a :: st) :=
  G_getv hl hd hk (fun _ => g_fv_l ht) kk
theorem G_getr {a ci k idx b : Nat} (hl : g_fl μ.1.cls idx ci k) (hd : decode μ.2.1 pc = .ok (.getfield idx, 3)) (hk : gk K n a (.inl ci)) (ht : g_ik (g_ty ci k) = 2) (hp : P a k = some b) (kk : G μ d mc ms post nc ns (K, I, J, P, n) al (pc + 3) (.ref b :: st)) : G μ d mc ms post nc ns (K, I, J, P, n) al pc (.ref a :: st) :=
  G_getv hl hd hk (fun E => by rw [g_fv_r ht]; show va_rf ((P a k).map (g_ad E)) = _; rw [hp]; rfl) kk
theorem G_putv {a ci k idx : Nat} {v : Value} {I' : Nat → Nat → Int32} {J' : Nat → Nat → Int64} {P' : Nat → Nat → Option Nat} (hl : g_fl μ.1.cls idx ci k) (hd : decode μ.2.1 pc = .ok (.putfield idx, 3)) (hk : gk K n a (.inl ci)) (hf : (g_T ci k).2.2.2 = false ∨ ((g_T ci k).2.2.2 = true ∧ μ.1.name = "<init>" ∧ (g_T ci k).1 = μ.1.cls)) (hok : ∀ E : gE, g_ok (g_ty ci k) (g_v E v))
    (hv : ∀ E : gE, g_fv E (K, I', J', P', n) a (g_ty ci k) k = g_v E v) (ho : ∀ E : gE, ∀ j, j ≠ k → g_fv E (K, I', J', P', n) a (g_ty ci j) j = g_fv E (K, I, J, P, n) a (g_ty ci j) j) (hI : ∀ b, b ≠ a → I' b = I b) (hJ : ∀ b, b ≠ a → J' b = J b) (hP' : ∀ b, b ≠ a → P' b = P b)
    (kk : G μ d mc ms post nc ns (K, I', J', P', n) al (pc + 3) st) : G μ d mc ms post nc ns (K, I, J, P, n) al pc (v :: .ref a :: st) := by
  intro E p l e R s m args below meth c H locs ls hC hH hL
  obtain ⟨h1, h2, h3⟩ := hl
  have hw := g_w_at (E := E) (M := (K, I, J, P, n)) hk.2
  rw [g_cell_o hk.1] at hw
  have hts := hC.2.2.2.2.2.1
  refine h_put (C := g_R ci) (T := g_T ci) (N := g_N ci) hC.1 hC.2.1 hts (g_inT ci h1) (g_ty ci) (g_tyok ci h1) (g_nm ci h1) hC.2.2.2.2.1 hC.2.2.2.2.2.2.2.2.2.1 hH.1 (g_w_D hH.2.2.1) hH.2.2.2.1 a hw (g_cl ci h1) k h2 (hts _ h3) (fun _ h => h) (hf.imp id (fun q => ⟨q.1, by rw [hC.2.2.2.2.2.2.2.1]; exact q.2.1, q.2.2⟩)) (g_tyok ci h1 k h2) (hok E).1 (hok E).2 (by rw [g_fs_len]; exact h2) hd (fun H1 locs1 hz hP1 hS1 => ?_)
  have he : g_w E (K, I', J', P', n) = (g_w E (K, I, J, P, n)).set a (g_ad E a, .inr (ci, (g_fs E (K, I, J, P, n) a ci).set k (g_v E v))) := by
    refine (g_w_set (M := (K, I, J, P, n)) (M' := (K, I', J', P', n)) rfl ?_ (fun b hb => g_cell_congr (M := (K, I', J', P', n)) (M' := (K, I, J, P, n)) rfl (hI b hb) (hJ b hb) (hP' b hb))).symm
    rw [g_cell_o (M := (K, I', J', P', n)) hk.1, g_fs_put (M := (K, I, J, P, n)) (hv E) (ho E)]
  exact kk E p l e R s m args below meth c H1 locs1 ls hC ⟨by rw [he]; exact hP1, by rw [hz]; exact hH.2.1, hH.2.2.1, hS1, hH.2.2.2.2⟩ hL
theorem g_fv_u {E : gE} {K : Nat → gK} {I I' : Nat → Nat → Int32} {J J' : Nat → Nat → Int64} {P P' : Nat → Nat → Option Nat} {n a j : Nat} {ty : FieldType} (h1 : I' a j = I a j) (h2 : J' a j = J a j) (h3 : P' a j = P a j) : g_fv E (K, I', J', P', n) a ty j = g_fv E (K, I, J, P, n) a ty j := by
  unfold g_fv
  show (match ty with | .long => Value.long (J' a j) | .object _ => va_rf ((P' a j).map (g_ad E)) | .array _ => va_rf ((P' a j).map (g_ad E)) | _ => Value.int (I' a j)) = _
  rw [h1, h2, h3]
  rfl
theorem g_u_at {α : Type} (f : Nat → Nat → α) (a k : Nat) (x : α) : g_u f a k x a k = x := by simp [g_u]
theorem g_u_off {α : Type} (f : Nat → Nat → α) (a : Nat) {k j : Nat} (x : α) (h : j ≠ k) : g_u f a k x a j = f a j := by simp [g_u, h]
theorem G_puti {a ci k idx : Nat} {x : Int32} (hl : g_fl μ.1.cls idx ci k) (hd : decode μ.2.1 pc = .ok (.putfield idx, 3)) (hk : gk K n a (.inl ci)) (ht : g_ik (g_ty ci k) = 0) (hf : (g_T ci k).2.2.2 = false ∨ ((g_T ci k).2.2.2 = true ∧ μ.1.name = "<init>" ∧ (g_T ci k).1 = μ.1.cls)) (hok : g_ok (g_ty ci k) (.int x))
    (kk : G μ d mc ms post nc ns (K, g_u I a k x, J, P, n) al (pc + 3) st) : G μ d mc ms post nc ns (K, I, J, P, n) al pc (.int x :: .ref a :: st) :=
  G_putv (v := .int x) hl hd hk hf (fun _ => hok) (fun E => by rw [g_fv_i ht]; exact congrArg Value.int (g_u_at I a k x)) (fun E j hj => g_fv_u (g_u_off I a x hj) rfl rfl) (fun b hb => g_u_ne I k x hb) (fun _ _ => rfl) (fun _ _ => rfl) kk
theorem G_putl {a ci k idx : Nat} {x : Int64} (hl : g_fl μ.1.cls idx ci k) (hd : decode μ.2.1 pc = .ok (.putfield idx, 3)) (hk : gk K n a (.inl ci)) (ht : g_ik (g_ty ci k) = 1) (hf : (g_T ci k).2.2.2 = false ∨ ((g_T ci k).2.2.2 = true ∧ μ.1.name = "<init>" ∧ (g_T ci k).1 = μ.1.cls)) (hok : g_ok (g_ty ci k) (.long x))
    (kk : G μ d mc ms post nc ns (K, I, g_u J a k x, P, n) al (pc + 3) st) : G μ d mc ms post nc ns (K, I, J, P, n) al pc (.long x :: .ref a :: st) :=
  G_putv (v := .long x) hl hd hk hf (fun _ => hok) (fun E => by rw [g_fv_l ht]; exact congrArg Value.long (g_u_at J a k x)) (fun E j hj => g_fv_u rfl (g_u_off J a x hj) rfl) (fun _ _ => rfl) (fun b hb => g_u_ne J k x hb) (fun _ _ => rfl) kk
theorem G_putr {a ci k idx b : Nat} (hl : g_fl μ.1.cls idx ci k) (hd : decode μ.2.1 pc = .ok (.putfield idx, 3)) (hk : gk K n a (.inl ci)) (ht : g_ik (g_ty ci k) = 2) (hf : (g_T ci k).2.2.2 = false ∨ ((g_T ci k).2.2.2 = true ∧ μ.1.name = "<init>" ∧ (g_T ci k).1 = μ.1.cls)) (hok : ∀ q : Nat, g_ok (g_ty ci k) (.ref q))
    (kk : G μ d mc ms post nc ns (K, I, J, g_u P a k (some b), n) al (pc + 3) st) : G μ d mc ms post nc ns (K, I, J, P, n) al pc (.ref b :: .ref a :: st) :=
  G_putv (v := .ref b) hl hd hk hf (fun _ => hok _) (fun E => by rw [g_fv_r ht]; show va_rf ((g_u P a k (some b) a k).map (g_ad E)) = _; rw [g_u_at]; rfl) (fun E j hj => g_fv_u rfl rfl (g_u_off P a _ hj)) (fun _ _ => rfl) (fun _ _ => rfl) (fun c hc => g_u_ne P k _ hc) kk
end GM
section GA
variable {μ : gMeth} {d mc ms : Nat} {post : gPost} {nc ns : Nat} {K : Nat → gK} {I : Nat → Nat → Int32} {J : Nat → Nat → Int64} {P : Nat → Nat → Option Nat} {n : Nat} {al : List (Option Value)} {pc : Nat} {st : List Value}
theorem G_iald {a N : Nat} {i : Int32} (hd : decode μ.2.1 pc = .ok (.iaload, 1)) (hk : gk K n a (.inr (0, N))) (hin : vp_in i N) (kk : G μ d mc ms post nc ns (K, I, J, P, n) al (pc + 1) (.int (I a i.toNatClampNeg) :: st)) : G μ d mc ms post nc ns (K, I, J, P, n) al pc (.int i :: .ref a :: st) := by
  intro E p l e R s m args below meth c H locs ls hC hH hL
  have hw := g_w_at (E := E) (M := (K, I, J, P, n)) hk.2
  rw [g_cell_a hk.1] at hw
  exact va_iald hC.1 hC.2.1 hC.2.2.2.2.2.2.2.2.2.1 hH.1 a 0 hw (g_tys_at E (by decide)) hin hd (kk E p l e R s m args below meth c H locs ls hC hH hL)
theorem G_zald {a N : Nat} {i : Int32} (hd : decode μ.2.1 pc = .ok (.baload, 1)) (hk : gk K n a (.inr (1, N))) (hin : vp_in i N) (kk : G μ d mc ms post nc ns (K, I, J, P, n) al (pc + 1) (.int (I a i.toNatClampNeg) :: st)) : G μ d mc ms post nc ns (K, I, J, P, n) al pc (.int i :: .ref a :: st) := by
  intro E p l e R s m args below meth c H locs ls hC hH hL
  have hw := g_w_at (E := E) (M := (K, I, J, P, n)) hk.2
  rw [g_cell_a hk.1] at hw
  exact va_zald hC.1 hC.2.1 hC.2.2.2.2.2.2.2.2.2.1 hH.1 a 1 hw (g_tys_at E (by decide)) hin hd (kk E p l e R s m args below meth c H locs ls hC hH hL)
theorem G_lald {a N : Nat} {i : Int32} (hd : decode μ.2.1 pc = .ok (.laload, 1)) (hk : gk K n a (.inr (2, N))) (hin : vp_in i N) (kk : G μ d mc ms post nc ns (K, I, J, P, n) al (pc + 1) (.long (J a i.toNatClampNeg) :: st)) : G μ d mc ms post nc ns (K, I, J, P, n) al pc (.int i :: .ref a :: st) := by
  intro E p l e R s m args below meth c H locs ls hC hH hL
  have hw := g_w_at (E := E) (M := (K, I, J, P, n)) hk.2
  rw [g_cell_a hk.1] at hw
  exact va_lald hC.1 hC.2.1 hC.2.2.2.2.2.2.2.2.2.1 hH.1 a 2 hw (g_tys_at E (by decide)) hin hd (kk E p l e R s m args below meth c H locs ls hC hH hL)
theorem g_arr_q {E : gE} {M : gMem} {a t : Nat} (h1 : 3 ≤ t) (h2 : t < 7) : g_arr E M a t = .inr (.inr (.inr (.inr (fun j => (M.2.2.2.1 a j).map (g_ad E))))) := by
  match t, h1, h2 with
  | 3, _, _ => rfl
  | 4, _, _ => rfl
  | 5, _, _ => rfl
  | 6, _, _ => rfl
theorem g_el_ref {t : Nat} (h1 : 3 ≤ t) (h2 : t < 7) : (g_el t).isReference = true := by
  match t, h1, h2 with
  | 3, _, _ => rfl
  | 4, _, _ => rfl
  | 5, _, _ => rfl
  | 6, _, _ => rfl
theorem G_aald {a t N b : Nat} {i : Int32} (hd : decode μ.2.1 pc = .ok (.aaload, 1)) (hk : gk K n a (.inr (t, N))) (h1 : 3 ≤ t) (h2 : t < 7) (hin : vp_in i N) (hp : P a i.toNatClampNeg = some b) (kk : G μ d mc ms post nc ns (K, I, J, P, n) al (pc + 1) (.ref b :: st)) : G μ d mc ms post nc ns (K, I, J, P, n) al pc (.int i :: .ref a :: st) := by
  intro E p l e R s m args below meth c H locs ls hC hH hL
  have hw := g_w_at (E := E) (M := (K, I, J, P, n)) hk.2
  rw [g_cell_a hk.1, g_arr_q h1 h2] at hw
  have hlt : i.toNatClampNeg < N := Nat.not_le.mp fun q => hin (Or.inr q)
  have hKt := (hC.2.2.2.2.2.2.2.2.2.1.2 t _ (g_tys_at E h2)).1
  refine W.aald (v := .ref (g_ad E b)) (ty := g_el t) hC.1 hC.2.1 (hH.1 a _ hw) (hKt N (fun j => va_rf ((P a j).map (g_ad E)))) (g_el_ref h1 h2) (fun q => by cases q) (by show ¬ (i < 0 ∨ (arrV _ _ _).slots.size ≤ _); rw [arrV_size]; exact hin) ?_ rfl rfl hd (kk E p l e R s m args below meth c H locs ls hC hH hL)
  show (arrV (E.2.1 t) N (fun j => va_rf ((P a j).map (g_ad E)))).slots[_]? = _
  rw [arrV_read _ _ hlt, hp]
  rfl
theorem G_iast {a N : Nat} {i x : Int32} (hd : decode μ.2.1 pc = .ok (.iastore, 1)) (hk : gk K n a (.inr (0, N))) (hin : vp_in i N) (kk : G μ d mc ms post nc ns (K, g_u I a i.toNatClampNeg x, J, P, n) al (pc + 1) st) : G μ d mc ms post nc ns (K, I, J, P, n) al pc (.int x :: .int i :: .ref a :: st) := by
  intro E p l e R s m args below meth c H locs ls hC hH hL
  have hw := g_w_at (E := E) (M := (K, I, J, P, n)) hk.2
  rw [g_cell_a hk.1] at hw
  refine h_iast hC.1 hC.2.1 hC.2.2.2.2.2.2.2.2.2.1 hH.1 (g_w_D hH.2.2.1) hH.2.2.2.1 a 0 hw (g_tys_at E (by decide)) hin hd (fun H1 locs1 hz hP1 hS1 => ?_)
  have he : g_w E (K, g_u I a i.toNatClampNeg x, J, P, n) = (g_w E (K, I, J, P, n)).set a (g_ad E a, .inl (E.2.1 0, N, .inl (fun j => if j = i.toNatClampNeg then x else I a j))) := by
    refine (g_w_set (M := (K, I, J, P, n)) (M' := (K, g_u I a i.toNatClampNeg x, J, P, n)) rfl ?_ (fun b hb => g_cell_congr (M := (K, g_u I a i.toNatClampNeg x, J, P, n)) (M' := (K, I, J, P, n)) rfl (g_u_ne I _ x hb) rfl rfl)).symm
    rw [g_cell_a (M := (K, g_u I a i.toNatClampNeg x, J, P, n)) hk.1]
    show Sum.inl (E.2.1 0, N, Sum.inl (g_u I a i.toNatClampNeg x a)) = _
    rw [g_u_self]
  exact kk E p l e R s m args below meth c H1 locs1 ls hC ⟨by rw [he]; exact hP1, by rw [hz]; exact hH.2.1, hH.2.2.1, hS1, hH.2.2.2.2⟩ hL
theorem G_zast {a N : Nat} {i x : Int32} (hd : decode μ.2.1 pc = .ok (.bastore, 1)) (hk : gk K n a (.inr (1, N))) (hin : vp_in i N) (kk : G μ d mc ms post nc ns (K, g_u I a i.toNatClampNeg (x &&& 1), J, P, n) al (pc + 1) st) : G μ d mc ms post nc ns (K, I, J, P, n) al pc (.int x :: .int i :: .ref a :: st) := by
  intro E p l e R s m args below meth c H locs ls hC hH hL
  have hw := g_w_at (E := E) (M := (K, I, J, P, n)) hk.2
  rw [g_cell_a hk.1] at hw
  refine h_zast hC.1 hC.2.1 hC.2.2.2.2.2.2.2.2.2.1 hH.1 (g_w_D hH.2.2.1) hH.2.2.2.1 a 1 hw (g_tys_at E (by decide)) hin hd (fun H1 locs1 hz hP1 hS1 => ?_)
  have he : g_w E (K, g_u I a i.toNatClampNeg (x &&& 1), J, P, n) = (g_w E (K, I, J, P, n)).set a (g_ad E a, .inl (E.2.1 1, N, .inl (fun j => if j = i.toNatClampNeg then x &&& 1 else I a j))) := by
    refine (g_w_set (M := (K, I, J, P, n)) (M' := (K, g_u I a i.toNatClampNeg (x &&& 1), J, P, n)) rfl ?_ (fun b hb => g_cell_congr (M := (K, g_u I a i.toNatClampNeg (x &&& 1), J, P, n)) (M' := (K, I, J, P, n)) rfl (g_u_ne I _ _ hb) rfl rfl)).symm
    rw [g_cell_a (M := (K, g_u I a i.toNatClampNeg (x &&& 1), J, P, n)) hk.1]
    show Sum.inl (E.2.1 1, N, Sum.inl (g_u I a i.toNatClampNeg (x &&& 1) a)) = _
    rw [g_u_self]
  exact kk E p l e R s m args below meth c H1 locs1 ls hC ⟨by rw [he]; exact hP1, by rw [hz]; exact hH.2.1, hH.2.2.1, hS1, hH.2.2.2.2⟩ hL
theorem G_last {a N : Nat} {i : Int32} {x : Int64} (hd : decode μ.2.1 pc = .ok (.lastore, 1)) (hk : gk K n a (.inr (2, N))) (hin : vp_in i N) (kk : G μ d mc ms post nc ns (K, I, g_u J a i.toNatClampNeg x, P, n) al (pc + 1) st) : G μ d mc ms post nc ns (K, I, J, P, n) al pc (.long x :: .int i :: .ref a :: st) := by
  intro E p l e R s m args below meth c H locs ls hC hH hL
  have hw := g_w_at (E := E) (M := (K, I, J, P, n)) hk.2
  rw [g_cell_a hk.1] at hw
  refine h_last hC.1 hC.2.1 hC.2.2.2.2.2.2.2.2.2.1 hH.1 (g_w_D hH.2.2.1) hH.2.2.2.1 a 2 hw (g_tys_at E (by decide)) hin hd (fun H1 locs1 hz hP1 hS1 => ?_)
  have he : g_w E (K, I, g_u J a i.toNatClampNeg x, P, n) = (g_w E (K, I, J, P, n)).set a (g_ad E a, .inl (E.2.1 2, N, .inr (.inl (fun j => if j = i.toNatClampNeg then x else J a j)))) := by
    refine (g_w_set (M := (K, I, J, P, n)) (M' := (K, I, g_u J a i.toNatClampNeg x, P, n)) rfl ?_ (fun b hb => g_cell_congr (M := (K, I, g_u J a i.toNatClampNeg x, P, n)) (M' := (K, I, J, P, n)) rfl rfl (g_u_ne J _ x hb) rfl)).symm
    rw [g_cell_a (M := (K, I, g_u J a i.toNatClampNeg x, P, n)) hk.1]
    show Sum.inl (E.2.1 2, N, Sum.inr (Sum.inl (g_u J a i.toNatClampNeg x a))) = _
    rw [g_u_self]
  exact kk E p l e R s m args below meth c H1 locs1 ls hC ⟨by rw [he]; exact hP1, by rw [hz]; exact hH.2.1, hH.2.2.1, hS1, hH.2.2.2.2⟩ hL
theorem G_aast {a t N b ci : Nat} {i : Int32} (hd : decode μ.2.1 pc = .ok (.aastore, 1)) (hk : gk K n a (.inr (t, N))) (h1 : 3 ≤ t) (h2 : t < 7) (hci : ci < 11) (hel : g_el t = .object (g_R ci)) (hb : gk K n b (.inl ci)) (hin : vp_in i N) (kk : G μ d mc ms post nc ns (K, I, J, g_u P a i.toNatClampNeg (some b), n) al (pc + 1) st) : G μ d mc ms post nc ns (K, I, J, P, n) al pc (.ref b :: .int i :: .ref a :: st) := by
  intro E p l e R s m args below meth c H locs ls hC hH hL
  have hw := g_w_at (E := E) (M := (K, I, J, P, n)) hk.2
  rw [g_cell_a hk.1, g_arr_q h1 h2] at hw
  have hwb := g_w_at (E := E) (M := (K, I, J, P, n)) hb.2
  rw [g_cell_o hb.1] at hwb
  refine h_astq (r := (g_R ci, g_T ci, g_N ci)) hC.1 hC.2.1 hC.2.2.2.2.2.2.2.2.2.1 hH.1 (g_w_D hH.2.2.1) hH.2.2.2.1 a t b ci hw (by rw [g_tys_at E h2, hel]) hwb (g_cl ci hci) hin hd (fun H1 locs1 hz hP1 hS1 => ?_)
  have he : g_w E (K, I, J, g_u P a i.toNatClampNeg (some b), n) = (g_w E (K, I, J, P, n)).set a (g_ad E a, .inl (E.2.1 t, N, .inr (.inr (.inr (.inr (fun j => if j = i.toNatClampNeg then some (g_ad E b) else (P a j).map (g_ad E))))))) := by
    refine (g_w_set (M := (K, I, J, P, n)) (M' := (K, I, J, g_u P a i.toNatClampNeg (some b), n)) rfl ?_ (fun b2 hb2 => g_cell_congr (M := (K, I, J, g_u P a i.toNatClampNeg (some b), n)) (M' := (K, I, J, P, n)) rfl rfl rfl (g_u_ne P _ _ hb2))).symm
    rw [g_cell_a (M := (K, I, J, g_u P a i.toNatClampNeg (some b), n)) hk.1, g_arr_q h1 h2]
    show Sum.inl (E.2.1 t, N, Sum.inr (Sum.inr (Sum.inr (Sum.inr (fun j => (g_u P a i.toNatClampNeg (some b) a j).map (g_ad E)))))) = _
    rw [g_u_self]
    congr 7
    funext j
    by_cases hj : j = i.toNatClampNeg
    · simp [hj]
    · simp [hj]
  exact kk E p l e R s m args below meth c H1 locs1 ls hC ⟨by rw [he]; exact hP1, by rw [hz]; exact hH.2.1, hH.2.2.1, hS1, hH.2.2.2.2⟩ hL
end GA
/-! returns -/
section GT
variable {μ : gMeth} {d mc ms : Nat} {post : gPost} {nc ns : Nat} {M : gMem} {al : List (Option Value)} {pc : Nat}
theorem g_Q_of {E : gE} {s : State} {H : Heap} {locs : List Loc} {args : Array Value} {r : Option Value} (hH : g_H E M s H locs) (hp : post r M) : ∀ t : State, t.heap = H → s.WarmedH t.vm → g_Q E post args s (.returned (r.map (g_v E))) t := by
  intro t ht _
  refine ⟨⟨r, M, rfl, hp, by rw [ht]; exact hH.1, by rw [ht]; exact hH.2.1, hH.2.2.1⟩, ?_, ?_⟩
  · rw [ht]
    exact hH.2.2.2.1.1
  · intro q h1 h2
    rw [ht]
    exact hH.2.2.2.1.2.1 q h1 h2
theorem G_iret {x : Int32} (hd : decode μ.2.1 pc = .ok (.ireturn, 1)) (hr : μ.2.2.2 = some .int) (hn : nc ≤ mc ∧ ns ≤ ms) (hp : post (some (.int x)) M) : G μ d mc ms post nc ns M al pc [.int x] := by
  intro E p l e R s m args below meth c H locs ls hC hH hL
  refine W.widen hn.1 hn.2 ?_
  exact W.iret hC.1 hC.2.1 (by rw [hC.2.2.1]; exact hr) (g_Q_of (r := some (.int x)) hH hp) hH.2.2.2.1.2.2 hd (hlocks := hC.2.2.2.2.2.2.1)
theorem G_zret {x : Int32} {ty : FieldType} (hd : decode μ.2.1 pc = .ok (.ireturn, 1)) (hr : μ.2.2.2 = some ty) (hx : narrow ty (.int x) = .int x) (hn : nc ≤ mc ∧ ns ≤ ms) (hp : post (some (.int x)) M) : G μ d mc ms post nc ns M al pc [.int x] := by
  intro E p l e R s m args below meth c H locs ls hC hH hL
  refine W.widen hn.1 hn.2 ?_
  exact W.zret hC.1 hC.2.1 (by rw [hC.2.2.1]; exact hr) hx (g_Q_of (r := some (.int x)) hH hp) hH.2.2.2.1.2.2 hd (hlocks := hC.2.2.2.2.2.2.1)
theorem G_lret {x : Int64} (hd : decode μ.2.1 pc = .ok (.lreturn, 1)) (hr : μ.2.2.2 = some .long) (hn : nc ≤ mc ∧ ns ≤ ms) (hp : post (some (.long x)) M) : G μ d mc ms post nc ns M al pc [.long x] := by
  intro E p l e R s m args below meth c H locs ls hC hH hL
  refine W.widen hn.1 hn.2 ?_
  exact W.lret hC.1 hC.2.1 (by rw [hC.2.2.1]; exact hr) (g_Q_of (r := some (.long x)) hH hp) hH.2.2.2.1.2.2 hd (hlocks := hC.2.2.2.2.2.2.1)
theorem G_vret (hd : decode μ.2.1 pc = .ok (.return_, 1)) (hr : μ.2.2.2 = none) (hn : nc ≤ mc ∧ ns ≤ ms) (hp : post none M) : G μ d mc ms post nc ns M al pc [] := by
  intro E p l e R s m args below meth c H locs ls hC hH hL
  refine W.widen hn.1 hn.2 ?_
  exact W.vret hC.1 hC.2.1 (by rw [hC.2.2.1]; exact hr) (g_Q_of (r := none) hH hp) hH.2.2.2.1.2.2 hd (hlocks := hC.2.2.2.2.2.2.1)
theorem G_aret {v : Value} {C : String} (hd : decode μ.2.1 pc = .ok (.areturn, 1)) (hr : μ.2.2.2 = some (.object C)) (hv : v = .null ∨ ∃ a, v = .ref a) (hn : nc ≤ mc ∧ ns ≤ ms) (hp : post (some v) M) : G μ d mc ms post nc ns M al pc [v] := by
  intro E p l e R s m args below meth c H locs ls hC hH hL
  refine W.widen hn.1 hn.2 ?_
  exact W.aret (v := g_v E v) hC.1 hC.2.1 (by rw [hC.2.2.1]; exact hr) (Or.inl ⟨C, rfl⟩) (by rcases hv with rfl | ⟨a, rfl⟩; exact Or.inl rfl; exact Or.inr ⟨_, rfl⟩) (g_Q_of (r := some v) hH hp) hH.2.2.2.1.2.2 hd (hlocks := hC.2.2.2.2.2.2.1)
end GT
