/-! reach: the open matches, and all their ways -/
def ops (t : gT) : Nat → List Nat
  | 0 => []
  | k + 1 => if (t.2.2.1 k).1 = 0 then ops t k ++ [k] else ops t k
theorem gd_l {l : List Nat} {a j : Nat} (h : j < l.length) : (l ++ [a]).getD j 0 = l.getD j 0 := by
  rw [List.getD_eq_getElem?_getD, List.getD_eq_getElem?_getD, List.getElem?_append_left h]
theorem gd_e {l : List Nat} {a : Nat} : (l ++ [a]).getD l.length 0 = a := by
  rw [List.getD_eq_getElem?_getD, List.getElem?_concat_length]
  rfl
theorem ops_lt {t : gT} : ∀ k j, j < (ops t k).length → (ops t k).getD j 0 < k := by
  intro k
  induction k with
  | zero => intro j h; exact absurd h (by simp [ops])
  | succ k ih =>
    intro j h
    unfold ops at h ⊢
    by_cases c : (t.2.2.1 k).1 = 0
    · rw [if_pos c] at h ⊢
      rw [List.length_append, List.length_singleton] at h
      by_cases e : j = (ops t k).length
      · rw [e, gd_e]
        omega
      · rw [gd_l (by omega)]
        have := ih j (by omega)
        omega
    · rw [if_neg c] at h ⊢
      have := ih j h
      omega
theorem ops_mono {t : gT} {j : Nat} : ∀ k, j ≤ k → (ops t j).length ≤ (ops t k).length := by
  intro k
  induction k with
  | zero =>
    intro h
    rw [show j = 0 by omega]
    exact Nat.le_refl _
  | succ k ih =>
    intro h
    by_cases e : j = k + 1
    · rw [e]
      exact Nat.le_refl _
    · have h2 := ih (by omega)
      have h3 : (ops t k).length ≤ (ops t (k + 1)).length := by
        show _ ≤ (if (t.2.2.1 k).1 = 0 then ops t k ++ [k] else ops t k).length
        split
        · simp
        · exact Nat.le_refl _
      omega
theorem ops_len {t : gT} : ∀ k, (ops t k).length ≤ k := by
  intro k
  induction k with
  | zero => simp [ops]
  | succ k ih =>
    show (if (t.2.2.1 k).1 = 0 then ops t k ++ [k] else ops t k).length ≤ k + 1
    split
    · simp only [List.length_append, List.length_singleton]
      omega
    · omega
theorem ops_sum {I : gI} : ∀ k, s_sum (F_op I) k = nI (ops (tt I) k).length := by
  intro k
  induction k with
  | zero => rfl
  | succ k ih =>
    rw [s_sum_s, ih]
    show _ = nI (if (M_res I k).1 = 0 then ops (tt I) k ++ [k] else ops (tt I) k).length
    unfold F_op
    by_cases c : (M_res I k).1 = 0
    · rw [if_pos c, if_pos c, nI_1, List.length_append, List.length_singleton]
    · rw [if_neg c, if_neg c, Int32.add_zero]
def ap (h a : Nat) (x : Int32) (T : Nat → Int32) (u : Nat) : Int32 := if u = a then T a + (2 - x) else if u = h then T h + x else T u
def pl (T : Nat → Int32) (v : Nat) : Int32 := 1 + s_sum (fun u => if T u ≤ T v then 0 else 1) 6
def RS (h a : Nat → Nat) (v : Nat) : Nat → Nat → (Nat → Int32) → Int32 → Prop
  | 0, _, T, p => p = pl T v
  | d + 1, j, T, p => ∃ x, x < 3 ∧ RS h a v d (j + 1) (ap (h j) (a j) (nI x) T) p
def MM (S : Int32 → Prop) (lo hi lo' hi' : Int32) : Prop := lo' ≤ lo ∧ hi ≤ hi' ∧ (∀ p, S p → lo' ≤ p ∧ p ≤ hi') ∧ (lo' = lo ∨ S lo') ∧ (hi' = hi ∨ S hi')
theorem MM.tr {S1 S2 S : Int32 → Prop} {lo hi lo1 hi1 lo2 hi2 : Int32} (h1 : MM S1 lo hi lo1 hi1) (h2 : MM S2 lo1 hi1 lo2 hi2) (e : ∀ p, S p ↔ S1 p ∨ S2 p) : MM S lo hi lo2 hi2 := by
  obtain ⟨a1, a2, a3, a4, a5⟩ := h1
  obtain ⟨b1, b2, b3, b4, b5⟩ := h2
  refine ⟨Int32.le_trans b1 a1, Int32.le_trans a2 b2, fun p hp => ?_, ?_, ?_⟩
  · rcases (e p).mp hp with q | q
    · exact ⟨Int32.le_trans b1 (a3 p q).1, Int32.le_trans (a3 p q).2 b2⟩
    · exact b3 p q
  · rcases b4 with q | q
    · rw [q]
      rcases a4 with z | z
      · exact Or.inl z
      · exact Or.inr ((e _).mpr (Or.inl z))
    · exact Or.inr ((e _).mpr (Or.inr q))
  · rcases b5 with q | q
    · rw [q]
      rcases a5 with z | z
      · exact Or.inl z
      · exact Or.inr ((e _).mpr (Or.inl z))
    · exact Or.inr ((e _).mpr (Or.inr q))
theorem MM.cg {S S' : Int32 → Prop} {lo hi lo' hi' : Int32} (h : MM S lo hi lo' hi') (e : ∀ p, S p ↔ S' p) : MM S' lo hi lo' hi' := by
  obtain ⟨a1, a2, a3, a4, a5⟩ := h
  exact ⟨a1, a2, fun p hp => a3 p ((e p).mpr hp), a4.imp id (e _).mp, a5.imp id (e _).mp⟩
theorem MM.one {lo hi p : Int32} : MM (fun q => q = p) lo hi (if p < lo then p else lo) (if hi < p then p else hi) := by
  by_cases c1 : p < lo
  · rw [if_pos c1]
    by_cases c2 : hi < p
    · rw [if_pos c2]
      exact ⟨Int32.le_of_lt c1, Int32.le_of_lt c2, fun q hq => by rw [hq]; exact ⟨Int32.le_refl _, Int32.le_refl _⟩, Or.inr rfl, Or.inr rfl⟩
    · rw [if_neg c2]
      exact ⟨Int32.le_of_lt c1, Int32.le_refl _, fun q hq => by rw [hq]; exact ⟨Int32.le_refl _, Int32.not_lt.mp c2⟩, Or.inr rfl, Or.inl rfl⟩
  · rw [if_neg c1]
    by_cases c2 : hi < p
    · rw [if_pos c2]
      exact ⟨Int32.le_refl _, Int32.le_of_lt c2, fun q hq => by rw [hq]; exact ⟨Int32.not_lt.mp c1, Int32.le_refl _⟩, Or.inl rfl, Or.inr rfl⟩
    · rw [if_neg c2]
      exact ⟨Int32.le_refl _, Int32.le_refl _, fun q hq => by rw [hq]; exact ⟨Int32.not_lt.mp c1, Int32.not_lt.mp c2⟩, Or.inl rfl, Or.inl rfl⟩
theorem MM.zero {lo hi : Int32} : MM (fun _ => False) lo hi lo hi := ⟨Int32.le_refl _, Int32.le_refl _, fun _ q => q.elim, Or.inl rfl, Or.inl rfl⟩
theorem MM.fin {S : Int32 → Prop} {lo hi lo' hi' : Int32} (h1 : MM S 6 1 lo hi) (h2 : MM S 99 0 lo' hi') (he : ∃ p, S p) (hb : ∀ p, S p → 1 ≤ p ∧ p ≤ 6) : lo = lo' ∧ hi = hi' := by
  obtain ⟨a1, a2, a3, a4, a5⟩ := h1
  obtain ⟨b1, b2, b3, b4, b5⟩ := h2
  obtain ⟨p, hp⟩ := he
  have k1 : S lo := by
    rcases a4 with q | q
    · have := (a3 p hp).1
      rw [q] at this ⊢
      rw [Int32.le_antisymm this (hb p hp).2]
      exact hp
    · exact q
  have k2 : S hi := by
    rcases a5 with q | q
    · have := (a3 p hp).2
      rw [q] at this ⊢
      rw [Int32.le_antisymm (hb p hp).1 this]
      exact hp
    · exact q
  have k3 : S lo' := by
    rcases b4 with q | q
    · have z := Int32.le_trans (b3 p hp).1 (hb p hp).2
      rw [q] at z
      exact absurd z (by decide)
    · exact q
  have k4 : S hi' := by
    rcases b5 with q | q
    · have z := Int32.le_trans (hb p hp).1 (b3 p hp).2
      rw [q] at z
      exact absurd z (by decide)
    · exact q
  exact ⟨Int32.le_antisymm (a3 _ k3).1 (b3 _ k1).1, Int32.le_antisymm (b3 _ k2).2 (a3 _ k4).2⟩
/-! the class's ways -/
theorem note_c {I : gI} {v : Nat} (hv : v < 6) : f_X0_notePlace (nI v) I = some (g_u (g_u I 65 4 (if pl (I 83) v < I 65 4 then pl (I 83) v else I 65 4)) 65 5 (if I 65 5 < pl (I 83) v then pl (I 83) v else I 65 5)) := by
  unfold f_X0_notePlace
  have key := lpg (P := fun fu u => f_X0_notePlace_4 fu (nI v) (1 + s_sum (fun u => if I 83 u ≤ I 83 v then 0 else 1) u) (nI u) I = some (g_u (g_u I 65 4 (if pl (I 83) v < I 65 4 then pl (I 83) v else I 65 4)) 65 5 (if I 65 5 < pl (I 83) v then pl (I 83) v else I 65 5))) (n := 6) (by omega) (fun fu => ?_) (fun fu u hu ih => ?_) 0 (by omega)
  · rw [show 1 + s_sum (fun u => if I 83 u ≤ I 83 v then 0 else 1) 0 = (1 : Int32) from Int32.add_zero 1] at key
    exact key
  · rw [f_X0_notePlace_4, if_pos (show (6 : Int32) ≤ nI 6 by decide)]
    rw [show 1 + s_sum (fun u => if I 83 u ≤ I 83 v then 0 else 1) 6 = pl (I 83) v from rfl, u_nk (by omega)]
  · rw [f_X0_notePlace_4, if_neg (show ¬ (6 : Int32) ≤ nI u from nI_ge (b := 6) hu (by omega)), gin_nI hu (by omega), gin_nI hv (by omega), if_pos rfl, if_pos rfl, nI_clamp (by omega), nI_clamp (by omega)]
    unfold f_X0_notePlace_31
    rw [b_c, nI_1, Int32.add_assoc]
    rw [s_sum_s] at ih
    by_cases c : I 83 u ≤ I 83 v
    · rw [if_pos c] at ih ⊢
      exact ih
    · rw [if_neg c] at ih ⊢
      exact ih
/-! one way, written by threes -/
def apn (h a : Nat → Nat) : Nat → Nat → Nat → (Nat → Int32) → Nat → Int32
  | 0, _, _, T => T
  | d + 1, j, y, T => apn h a d (j + 1) (y / 3) (ap (h j) (a j) (nI (y % 3)) T)
theorem apn_cg {h a : Nat → Nat} {q : Nat} (hh : ∀ j, j < q → h j < 6 ∧ a j < 6) : ∀ d j y (T T' : Nat → Int32), j + d = q → (∀ u, u < 6 → T u = T' u) → ∀ u, u < 6 → apn h a d j y T u = apn h a d j y T' u := by
  intro d
  induction d with
  | zero =>
    intro j y T T' _ e u hu
    exact e u hu
  | succ d ih =>
    intro j y T T' hj e u hu
    obtain ⟨h1, h2⟩ := hh j (by omega)
    refine ih (j + 1) (y / 3) _ _ (by omega) (fun u hu => ?_) u hu
    unfold ap
    rw [e u hu, e _ h1, e _ h2]
theorem RS_apn {h a : Nat → Nat} {v : Nat} : ∀ d j (T : Nat → Int32) p, RS h a v d j T p ↔ ∃ y, y < 3 ^ d ∧ p = pl (apn h a d j y T) v := by
  intro d
  induction d with
  | zero =>
    intro j T p
    exact ⟨fun q => ⟨0, by simp, q⟩, fun ⟨y, _, q⟩ => q⟩
  | succ d ih =>
    intro j T p
    have e3 : 3 ^ (d + 1) = 3 ^ d * 3 := Nat.pow_succ 3 d
    constructor
    · rintro ⟨x, hx, r⟩
      obtain ⟨y, hy, e⟩ := (ih (j + 1) _ p).mp r
      refine ⟨3 * y + x, by omega, ?_⟩
      show p = pl (apn h a d (j + 1) ((3 * y + x) / 3) (ap (h j) (a j) (nI ((3 * y + x) % 3)) T)) v
      rw [show (3 * y + x) / 3 = y by omega, show (3 * y + x) % 3 = x by omega]
      exact e
    · rintro ⟨y, hy, e⟩
      exact ⟨y % 3, Nat.mod_lt _ (by omega), (ih (j + 1) _ p).mpr ⟨y / 3, by omega, e⟩⟩
theorem d729 : ∀ y, y < 729 → nI y / 3 = nI (y / 3) ∧ nI y - nI y / 3 * 3 = nI (y % 3) := by decide +kernel
def rdL (m q : Nat) (L h a : Nat → Nat) (I : gI) : Prop := I 65 10 = nI q ∧ q ≤ 6 ∧ m ≤ 24 ∧ ∀ j, j < q → I 84 j = nI (L j) ∧ L j < m ∧ I (117 + 2 * L j) 0 = nI (h j) ∧ I (117 + 2 * L j) 1 = nI (a j) ∧ h j < 6 ∧ a j < 6 ∧ h j ≠ a j
theorem rdL.fr {m q : Nat} {L h a : Nat → Nat} {I I' : gI} (r : rdL m q L h a I) (f : ∀ b k, b ≠ 83 → ¬ (b = 65 ∧ (k = 4 ∨ k = 5)) → I' b k = I b k) : rdL m q L h a I' := by
  obtain ⟨r1, r2, r3, r4⟩ := r
  refine ⟨by rw [f _ _ (by omega) (by omega)]; exact r1, r2, r3, fun j hj => ?_⟩
  obtain ⟨s1, s2, s3, s4, s5⟩ := r4 j hj
  exact ⟨by rw [f _ _ (by omega) (by omega)]; exact s1, s2, by rw [f _ _ (by omega) (by omega)]; exact s3, by rw [f _ _ (by omega) (by omega)]; exact s4, s5⟩
theorem take_c {m q : Nat} {L h a : Nat → Nat} : ∀ (d j fu y : Nat) (I1 : gI), j + d = q → d < fu → y < 729 → rdL m q L h a I1 → ∃ I2, f_X0_takeWay_19 m fu (nI y) (nI j) I1 = some I2 ∧ (∀ b k, b ≠ 83 → I2 b k = I1 b k) ∧ I2 83 = apn h a d j y (I1 83) := by
  intro d
  induction d with
  | zero =>
    intro j fu y I1 h1 h2 h3 hr
    obtain ⟨fu, rfl⟩ : ∃ f, fu = f + 1 := ⟨fu - 1, by omega⟩
    have hj : j = q := by omega
    subst hj
    refine ⟨I1, ?_, fun _ _ _ => rfl, rfl⟩
    rw [f_X0_takeWay_19, hr.1, if_pos (nI_le (Nat.le_refl _) (by have := hr.2.1; omega))]
  | succ d ih =>
    intro j fu y I1 h1 h2 h3 hr
    obtain ⟨fu, rfl⟩ : ∃ f, fu = f + 1 := ⟨fu - 1, by omega⟩
    obtain ⟨r1, r2, r3, r4⟩ := id hr
    obtain ⟨s1, s2, s3, s4, s5, s6, s7⟩ := r4 j (by omega)
    obtain ⟨d1, d2⟩ := d729 y h3
    have gh : g_in (nI (h j)) 6 = true := gin_nI s5 (by omega)
    have ga : g_in (nI (a j)) 6 = true := gin_nI s6 (by omega)
    have ch' : (nI (h j)).toNatClampNeg = h j := nI_clamp (by omega)
    have ca' : (nI (a j)).toNatClampNeg = a j := nI_clamp (by omega)
    have gL : g_in (nI (L j)) 24 = true := gin_nI (by omega) (by omega)
    have cL : (nI (L j)).toNatClampNeg = L j := nI_clamp (by omega)
    have gj : g_in (nI j) 6 = true := gin_nI (by omega) (by omega)
    have cj : (nI j).toNatClampNeg = j := nI_clamp (by omega)
    have n1 : 117 + 2 * L j ≠ 83 := by omega
    rw [f_X0_takeWay_19, r1, if_neg (nI_ge (show j < q by omega) (by omega)), d2, d1]
    simp only [gj, cj, s1, gL, cL, s2, s3, gh, ch', u_na n1, s4, ga, ca', if_true, nI_1]
    rw [show (g_u I1 83 (h j) (I1 83 (h j) + nI (y % 3))) 83 (a j) = I1 83 (a j) from u_nk (fun z => s7 z.symm)]
    obtain ⟨I3, eI3⟩ : ∃ I3, I3 = g_u (g_u I1 83 (h j) (I1 83 (h j) + nI (y % 3))) 83 (a j) (I1 83 (a j) + (2 - nI (y % 3))) := ⟨_, rfl⟩
    have f3 : ∀ b k, b ≠ 83 → I3 b k = I1 b k := fun b k z => by rw [eI3, u_na z, u_na z]
    have t3 : I3 83 = ap (h j) (a j) (nI (y % 3)) (I1 83) := by
      funext u
      rw [eI3, u_ap, u_ap]
      unfold ap
      by_cases q1 : u = a j
      · simp [q1]
      · by_cases q2 : u = h j
        · simp [q2, s7]
        · simp [q1, q2]
    obtain ⟨I4, b1, b2, b3⟩ := ih (j + 1) fu (y / 3) I3 (by omega) (by omega) (by omega) (hr.fr fun b k z _ => f3 b k z)
    refine ⟨I4, ?_, fun b k z => by rw [b2 b k z, f3 b k z], by rw [b3, t3]; rfl⟩
    rw [← b1, eI3]
theorem way_c {m q y : Nat} {L h a : Nat → Nat} {I : gI} (hy : y < 729) (hr : rdL m q L h a I) : ∃ I2, f_X0_takeWay m (nI y) I = some I2 ∧ (∀ b k, b ≠ 83 → I2 b k = I b k) ∧ I2 83 = apn h a q 0 y (fun u => if u < 6 then I 82 u else I 83 u) := by
  obtain ⟨I2, a1, a2, a3⟩ := take_c (m := m) (q := q) (L := L) (h := h) (a := a) q 0 g_fuel y (g_cp I 82 83 6) (by omega) (by have := hr.2.1; unfold g_fuel; omega) hy (hr.fr fun b k z _ => by rw [g_cp_ne _ z])
  refine ⟨I2, a1, fun b k z => by rw [a2 b k z, g_cp_ne _ z], ?_⟩
  rw [a3, g_cp_self]
theorem ways_c {m q v : Nat} {L h a : Nat → Nat} {T : Nat → Int32} {I : gI} (hv : v < 6) (hr : rdL m q L h a I) (ht : ∀ u, u < 6 → I 82 u = T u) (e4 : I 65 4 = 6) (e5 : I 65 5 = 1) : ∃ I', f_X0_tryAllWays_64 m g_fuel (nI v) (nI (3 ^ q)) 0 I = some I' ∧ (∀ b k, b ≠ 83 → ¬ (b = 65 ∧ (k = 4 ∨ k = 5)) → I' b k = I b k) ∧ MM (RS h a v q 0 T) 6 1 (I' 65 4) (I' 65 5) := by
  have hh : ∀ j, j < q → h j < 6 ∧ a j < 6 := fun j hj => ⟨(hr.2.2.2 j hj).2.2.2.2.1, (hr.2.2.2 j hj).2.2.2.2.2.1⟩
  have p729 : ∀ q, q ≤ 6 → 3 ^ q ≤ 729 := by decide
  have hq3 := p729 q hr.2.1
  refine lpg (P := fun fu x => ∀ I1, (∀ b k, b ≠ 83 → ¬ (b = 65 ∧ (k = 4 ∨ k = 5)) → I1 b k = I b k) → MM (fun p => ∃ y, y < x ∧ p = pl (apn h a q 0 y T) v) 6 1 (I1 65 4) (I1 65 5) → ∃ I', f_X0_tryAllWays_64 m fu (nI v) (nI (3 ^ q)) (nI x) I1 = some I' ∧ (∀ b k, b ≠ 83 → ¬ (b = 65 ∧ (k = 4 ∨ k = 5)) → I' b k = I b k) ∧ MM (RS h a v q 0 T) 6 1 (I' 65 4) (I' 65 5)) (n := 3 ^ q) (by omega) (fun fu I1 a1 a2 => ?_) (fun fu x hx ih I1 a1 a2 => ?_) 0 (Nat.zero_le _) I (fun _ _ _ _ => rfl) ?_
  · refine ⟨I1, ?_, a1, a2.cg fun p => (RS_apn q 0 _ p).symm⟩
    rw [f_X0_tryAllWays_64, if_pos (nI_le (Nat.le_refl _) (by omega))]
  · obtain ⟨I2, b1, b2, b3⟩ := way_c (m := m) (q := q) (L := L) (h := h) (a := a) (I := I1) (y := x) (by omega) (hr.fr a1)
    rw [f_X0_tryAllWays_64, if_neg (nI_ge hx (by omega)), b1, Option.bind_some, note_c hv, Option.bind_some, nI_1]
    have e : pl (I2 83) v = pl (apn h a q 0 x T) v := by
      have hu : ∀ u, u < 6 → I2 83 u = apn h a q 0 x T u := fun u hu => by
        rw [b3]
        exact apn_cg hh q 0 x _ _ (by omega) (fun u hu => by
          show (if u < 6 then I1 82 u else I1 83 u) = T u
          rw [if_pos hu, a1 82 u (by omega) (by omega), ht u hu]) u hu
      unfold pl
      rw [s_sum_cg (f := fun u => if I2 83 u ≤ I2 83 v then 0 else 1) (g := fun u => if apn h a q 0 x T u ≤ apn h a q 0 x T v then 0 else 1) fun u hu' => by rw [hu u hu', hu v hv]]
    refine ih _ (fun b k z1 z2 => ?_) ?_
    · rw [u_ap, if_neg (by omega), u_ap, if_neg (by omega), b2 b k z1, a1 b k z1 z2]
    · rw [u_nk (by omega), u_eq rfl rfl, u_eq rfl rfl, b2 65 4 (by omega), b2 65 5 (by omega), e]
      refine a2.tr MM.one fun p => ⟨fun ⟨y, hy, hp⟩ => ?_, fun hp => ?_⟩
      · by_cases z : y = x
        · subst z
          exact Or.inr hp
        · exact Or.inl ⟨y, by omega, hp⟩
      · rcases hp with ⟨y, hy, hp⟩ | hp
        · exact ⟨y, by omega, hp⟩
        · exact ⟨x, by omega, hp⟩
  · rw [e4, e5]
    exact MM.zero.cg fun p => ⟨fun q => q.elim, fun ⟨y, hy, _⟩ => absurd hy (by omega)⟩
theorem pow_c {m q : Nat} {I : gI} (x1 : Int32) (h : I 65 10 = nI q) (hq : q ≤ 6) : f_X0_tryAllWays_33 m g_fuel x1 1 0 I = f_X0_tryAllWays_64 m g_fuel x1 (nI (3 ^ q)) 0 (g_u (g_u I 65 4 6) 65 5 1) := by
  refine lpg (P := fun fu k => f_X0_tryAllWays_33 m fu x1 (nI (3 ^ k)) (nI k) I = f_X0_tryAllWays_64 m g_fuel x1 (nI (3 ^ q)) 0 (g_u (g_u I 65 4 6) 65 5 1)) (n := q) (by omega) (fun fu => ?_) (fun fu k hk ih => ?_) 0 (by omega)
  · rw [f_X0_tryAllWays_33, h, if_pos (nI_le (Nat.le_refl _) (by omega))]
  · rw [f_X0_tryAllWays_33, h, if_neg (nI_ge hk (by omega)), nI_1, show nI (3 ^ k) * 3 = nI (3 ^ (k + 1)) from nI_mul _ 3]
    exact ih
