/-! the start: everything that the frame wants, out of the Statement's words -/
theorem s_classes {args : Array Value} {s : State} (hts : ∀ w ∈ g_tb, w.before args s = true) : ∃ D : va_G, ∀ (c : Nat) (q : vw_C), vwCl[c]? = some q → u_Kn s q.1 q.2.1 q.2.2 (D.1 c) (D.2 c) := by
  have h0 : ∀ ci : Nat, ∃ q : ClassId × (Nat → Nat), ci < 11 → u_Kn s (g_R ci) (g_T ci) (g_N ci) q.1 q.2 := by
    intro ci
    by_cases h : ci < 11
    · obtain ⟨cC, iS, hk⟩ := u_known (ws := g_tb) hts (g_inT ci h) (hts _ (n_inst ci h).1)
      exact ⟨(cC, iS), fun _ => hk⟩
    · exact ⟨(0, fun _ => 0), fun q => absurd q h⟩
  obtain ⟨f, hf⟩ := Classical.axiomOfChoice h0
  refine ⟨(fun c => (f c).1, fun c => (f c).2), fun c q hq => ?_⟩
  have hc : c < 11 := (List.getElem?_eq_some_iff.mp hq).1
  rw [g_cl c hc] at hq
  cases hq
  exact hf c hc
theorem s_prim {args : Array Value} {s : State} {ty : FieldType} (h : (Cond.arrayClass ty).before args s = true) (ho : ∀ C, ty ≠ .object C) : ∃ c : ClassId, ArrOfT s c ty ∧ va_RA s c ty := by
  obtain ⟨c, k, comp, h1, h2, h3⟩ := Cond.arrayClass_spec h
  refine ⟨c, fun N z => ⟨(fun k h => by cases h), k, h2, comp, h3⟩, ?_⟩
  cases ty <;> first | exact h1 | exact absurd rfl (ho _)
theorem s_obj {args : Array Value} {s : State} {C : String} (h : (Cond.arrayOver (.object C)).before args s = true) : ∃ c : ClassId, ArrOfT s c (.object C) ∧ va_RA s c (.object C) := by
  obtain ⟨comp, c, k, h1, h2, h3, h4, h5⟩ := Cond.arrayOver_spec h
  exact ⟨c, fun N z => ⟨(fun k h => by cases h), k, h3, comp, h4⟩, k, comp, h3, h4, h1, h5⟩
theorem s_arr {args : Array Value} {s : State} (h : (Cond.arrayOver (.array .int)).before args s = true) : g_AOA s ∧ ∃ c : ClassId, ArrOfT s c (.array .int) ∧ va_RA s c (.array .int) := by
  obtain ⟨comp, c, k, h1, h2, h3, h4, h5⟩ := Jvm.Stand.arrayOver_specB h
  exact ⟨⟨comp, c, k, h1, h2, h3, h4, h5⟩, c, fun N z => ⟨(fun k h => by cases h), k, h3, comp, h4⟩, h5⟩
def s_f (a0 a1 a2 a3 : Nat) (adK adV : Nat → Nat) (b z : Nat) : Nat → Nat := fun i => if i = 0 then a0 else if i = 1 then a1 else if i = 2 then a2 else if i = 3 then a3 else if i = 98 then b else if i = 99 then z else if i < 40 then adK (i - 10) else adV (i - 40)
def s_t (c0 c1 c2 c3 c4 c5 c6 : ClassId) : Nat → ClassId := fun i => if i = 0 then c0 else if i = 1 then c1 else if i = 2 then c2 else if i = 3 then c3 else if i = 4 then c4 else if i = 5 then c5 else c6
theorem s_K {D : va_G} {s : State} (hD : ∀ (c : Nat) (q : vw_C), vwCl[c]? = some q → u_Kn s q.1 q.2.1 q.2.2 (D.1 c) (D.2 c)) {t : Nat → ClassId} (h : ∀ i, i < 7 → ArrOfT s (t i) (g_el i) ∧ va_RA s (t i) (g_el i)) {n : Nat} {f : Nat → Nat} : va_K D vwCl (g_tys (D, t, n, f)) s := by
  refine ⟨hD, fun k q hq => ?_⟩
  have hk : k < 7 := by
    have := (List.getElem?_eq_some_iff.mp hq).1
    simpa [g_tys] using this
  rw [g_tys_at _ hk] at hq
  cases hq
  exact h k hk
theorem s_stat {args : Array Value} {s : State} {A : Nat → Prop} (hts : ∀ w ∈ lw_tbl, w.before args s = true) (hf : ∀ c ∈ g_nar, c.before args s = true) (hA : ∀ a : Nat, a < s.heap.size → ¬ A a) (i : Nat) (hi : i < 4) : ∃ t : Nat, va_Z (g_sC i) (g_sn i) "[I" (.ref t) A s s.heap ∧ va_T .int t (g_sl i).length (fun j => .int (g_sf i j)) A s s.heap := by
  have hN : (g_sl i).length < 2 ^ 31 := by
    have : ∀ i, i < 4 → (g_sl i).length < 2 ^ 31 := by decide +kernel
    exact this i hi
  obtain ⟨t, h1, h2⟩ := va_Tof (f := fun j => .int (g_sf i j)) (A := A) hN (hf _ (n_arr i hi)) (va_eqt (hf _ (n_len i hi))) (fun j hj => va_eqt (hf _ (n_el i hi j hj))) hA
  exact ⟨t, va_Zof (hts _ (n_ls i hi)) (hts _ (n_in i hi)) h1 hA, h2⟩
theorem s_nest : ∀ w ∈ g_nest, w.onTables = true := by decide +kernel
theorem whole_of {Inv : Nat → gI → gJ → Prop} (hops : gOps Inv) (hI0 : Inv 0 gI2 gJz) {p : Program} {e : Env} {s : State} {m : MethodId} {below : List Frame} {meth : Method} {c : Code} (l : Launch) {b L : Nat} {xs : Nat → Int32} (hL : L ≤ 4096) (C0 : lw_At p s m meth c b L xs) : W p l e room_1 s m #[Value.ref b] below meth c s.heap [] 0 0 (lw_Z below #[Value.ref b] s) (entryFrame m ([Value.ref b] : List Value).toArray 4) := by
  obtain ⟨hx, hb, hr, hml, hown, hts, hX, hbl, hlocks, hgv⟩ := C0
  have hf : ∀ c ∈ g_nar, c.before #[Value.ref b] s = true := flat_of_before _ hgv
  have htb : ∀ w ∈ g_tb, w.before #[Value.ref b] s = true := fun w hw => hts w (g_tb_in hw)
  obtain ⟨D, hD⟩ := s_classes htb
  obtain ⟨c0, k0⟩ := s_prim (htb _ ac_84) (fun _ h => by cases h)
  obtain ⟨c1, k1⟩ := s_prim (htb _ ac_1119) (fun _ h => by cases h)
  obtain ⟨c2, k2⟩ := s_prim (htb _ ac_176) (fun _ h => by cases h)
  obtain ⟨c3, k3⟩ := s_obj (hts _ n_ao.1)
  obtain ⟨c4, k4⟩ := s_obj (hts _ n_ao.2.1)
  obtain ⟨c5, k5⟩ := s_obj (hts _ n_ao.2.2.1)
  obtain ⟨hAOA, c6, k6⟩ := s_arr (hts _ n_ao.2.2.2)
  have hA : ∀ a : Nat, a < s.heap.size → ¬ (fun q : Nat => s.heap.size ≤ q) a := fun a h => Nat.not_le.mpr h
  obtain ⟨a0, z0, t0⟩ := s_stat hts hf hA 0 (by decide)
  obtain ⟨a1, z1, t1⟩ := s_stat hts hf hA 1 (by decide)
  obtain ⟨a2, z2, t2⟩ := s_stat hts hf hA 2 (by decide)
  obtain ⟨a3, z3, t3⟩ := s_stat hts hf hA 3 (by decide)
  obtain ⟨adK, adV, hS, hev⟩ := vk_Sof (s := s) (args := #[Value.ref b]) (N := 18) (tm := g_tm) (len := g_kls) (byt := g_kbs) (A := fun q : Nat => s.heap.size ≤ q) n_kl (fun i hi => hf _ (n_ex i hi)) (fun i hi => hf _ (n_co i hi)) (fun i hi => hf _ (n_ar i hi)) (fun i hi => hf _ (n_le i hi)) (fun i hi j hj => hf _ (n_sel i hi j hj)) (fun i j hi hj hne => (n_ne i j hi hj hne).imp (hf _) (hf _)) hA
  obtain ⟨v, hv, hvr⟩ := Cond.isRef_spec (hf _ n_sf)
  obtain ⟨z, hz⟩ : ∃ z : Nat, va_Z RJ3 "SIOOBE_FORMATTER" "Ljava/util/function/BiFunction;" .null (fun q : Nat => s.heap.size ≤ q) s s.heap ∨ va_Z RJ3 "SIOOBE_FORMATTER" "Ljava/util/function/BiFunction;" (.ref z) (fun q : Nat => s.heap.size ≤ q) s s.heap := by
    have h := va_Zof (A := fun q : Nat => s.heap.size ≤ q) (hts _ n_sl.1) (hts _ n_sl.2) hv hA
    cases v with
    | null => exact ⟨0, Or.inl h⟩
    | ref q => exact ⟨q, Or.inr h⟩
    | _ => cases hvr
  have hK : va_K D vwCl (g_tys (D, s_t c0 c1 c2 c3 c4 c5 c6, s.heap.size, s_f a0 a1 a2 a3 adK adV b z)) s := by
    refine s_K hD fun i hi => ?_
    match i, hi with
    | 0, _ => exact k0
    | 1, _ => exact k1
    | 2, _ => exact k2
    | 3, _ => exact k3
    | 4, _ => exact k4
    | 5, _ => exact k5
    | 6, _ => exact k6
    | q + 7, h => exact absurd h (by omega)
  have e40 : ∀ i, i < 18 → s_f a0 a1 a2 a3 adK adV b z (10 + i) = adK i := by
    intro i hi
    unfold s_f
    rw [if_neg (by omega), if_neg (by omega), if_neg (by omega), if_neg (by omega), if_neg (by omega), if_neg (by omega), if_pos (by omega), Nat.add_sub_cancel_left]
  have e98 : ∀ i, i < 18 → s_f a0 a1 a2 a3 adK adV b z (40 + i) = adV i := by
    intro i hi
    unfold s_f
    rw [if_neg (by omega), if_neg (by omega), if_neg (by omega), if_neg (by omega), if_neg (by omega), if_neg (by omega), if_neg (by omega), Nat.add_sub_cancel_left]
  have hF : g_F (D, s_t c0 c1 c2 c3 c4 c5 c6, s.heap.size, s_f a0 a1 a2 a3 adK adV b z) s := by
    refine ⟨fun i hi => ?_, ⟨?_, fun i hi => ?_, ?_, ?_⟩, fun w hw => ?_, ?_, ?_, ?_, hAOA⟩
    · match i, hi with
      | 0, _ => exact ⟨z0, t0⟩
      | 1, _ => exact ⟨z1, t1⟩
      | 2, _ => exact ⟨z2, t2⟩
      | 3, _ => exact ⟨z3, t3⟩
      | q + 4, h => exact absurd h (by omega)
    · refine ⟨fun i hi => ?_, fun i j hi hj he => ?_⟩
      · show _ ∧ _
        simp only [e40 i hi, e98 i hi]
        exact hS.1 i hi
      · simp only [e40 i hi, e40 j hj] at he
        exact hS.2 i j hi hj he
    · show vk_R _ _ _ (s_f a0 a1 a2 a3 adK adV b z (10 + i)) s
      rw [e40 i hi]
      exact vk_R.of (hts _ (n_sr i hi)) (hev i hi)
    · exact va_Zof (hts _ n_cl.1) (hts _ n_cl.2) (va_eqi (hf _ n_cs)) hA
    · exact hz
    · exact va_Nw.of (s_nest w hw) (hts w (n_ns w hw))
    · exact va_AO.of (hts _ n_ao.1)
    · exact va_AO.of (hts _ n_ao.2.1)
    · exact va_AO.of (hts _ n_ao.2.2.1)
  have hl := lv_entry [Value.ref b] (n := 4) (show 1 ≤ 4 by decide)
  rw [lg_entry_eq]
  refine law_start hops hI0 hL (D, s_t c0 c1 c2 c3 c4 c5 c6, s.heap.size, s_f a0 a1 a2 a3 adK adV b z) p l e s m below meth c s.heap [] _ ⟨⟨hx, hb, hr, hml, hown, htb, hlocks, hK, hF⟩, rfl, hX, hbl, rfl⟩ ⟨?_, rfl, by decide, va_S.rf, Nat.le_refl _⟩ ⟨hl.1, hl.2.1, fun i v hi => ?_⟩
  · intro k q hq
    simp [g_w] at hq
  · match i, hi with
    | 0, hi =>
      cases hi
      have : g_v (D, s_t c0 c1 c2 c3 c4 c5 c6, s.heap.size, s_f a0 a1 a2 a3 adK adV b z) (.ref 1000098) = .ref b := rfl
      rw [this]
      exact hl.2.2 (0, Value.ref b) List.mem_cons_self
    | 1, hi => cases hi
    | 2, hi => cases hi
    | 3, hi => cases hi
    | q + 4, hi => cases hi
