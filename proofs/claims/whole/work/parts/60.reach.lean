/-! reach: the open matches, and all their ways -/
def ops (t : gT) : Nat → List Nat
  | 0 => []
  | k + 1 => if (t.2.2.1 k).1 = 0 then ops t k ++ [k] else ops t k
theorem gd_l {l : List Nat} {a j : Nat} (h : j < l.length) : (l ++ [a]).getD j 0 = l.getD j 0 := by
  rw [List.getD_eq_getElem?_getD, List.getD_eq_getElem?_getD, List.getElem?_append_left h]
theorem gd_e {l : List Nat} {a : Nat} : (l ++ [a]).getD l.length 0 = a := by
  rw [List.getD_eq_getElem?_getD, List.getElem?_concat_length]
  rfl
theorem ops_lt {t : gT} : ∀ k j, j < (ops t k).length → (ops t k).getD j 0 < k := by
  intro k
  induction k with
  | zero => intro j h; exact absurd h (by simp [ops])
  | succ k ih =>
    intro j h
    unfold ops at h ⊢
    by_cases c : (t.2.2.1 k).1 = 0
    · rw [if_pos c] at h ⊢
      rw [List.length_append, List.length_singleton] at h
      by_cases e : j = (ops t k).length
      · rw [e, gd_e]
        omega
      · rw [gd_l (by omega)]
        have := ih j (by omega)
        omega
    · rw [if_neg c] at h ⊢
      have := ih j h
      omega
theorem ops_mono {t : gT} {j : Nat} : ∀ k, j ≤ k → (ops t j).length ≤ (ops t k).length := by
  intro k
  induction k with
  | zero =>
    intro h
    rw [show j = 0 by omega]
    exact Nat.le_refl _
  | succ k ih =>
    intro h
    by_cases e : j = k + 1
    · rw [e]
      exact Nat.le_refl _
    · have h2 := ih (by omega)
      have h3 : (ops t k).length ≤ (ops t (k + 1)).length := by
        show _ ≤ (if (t.2.2.1 k).1 = 0 then ops t k ++ [k] else ops t k).length
        split
        · simp
        · exact Nat.le_refl _
      omega
theorem ops_len {t : gT} : ∀ k, (ops t k).length ≤ k := by
  intro k
  induction k with
  | zero => simp [ops]
  | succ k ih =>
    show (if (t.2.2.1 k).1 = 0 then ops t k ++ [k] else ops t k).length ≤ k + 1
    split
    · simp only [List.length_append, List.length_singleton]
      omega
    · omega
theorem ops_sum {I : gI} : ∀ k, s_sum (F_op I) k = nI (ops (tt I) k).length := by
  intro k
  induction k with
  | zero => rfl
  | succ k ih =>
    rw [s_sum_s, ih]
    show _ = nI (if (M_res I k).1 = 0 then ops (tt I) k ++ [k] else ops (tt I) k).length
    unfold F_op
    by_cases c : (M_res I k).1 = 0
    · rw [if_pos c, if_pos c, nI_1, List.length_append, List.length_singleton]
    · rw [if_neg c, if_neg c, Int32.add_zero]
def ap (h a : Nat) (x : Int32) (T : Nat → Int32) (u : Nat) : Int32 := if u = a then T a + (2 - x) else if u = h then T h + x else T u
def pl (T : Nat → Int32) (v : Nat) : Int32 := 1 + s_sum (fun u => if T u ≤ T v then 0 else 1) 6
def RS (h a : Nat → Nat) (v : Nat) : Nat → Nat → (Nat → Int32) → Int32 → Prop
  | 0, _, T, p => p = pl T v
  | d + 1, j, T, p => ∃ x, x < 3 ∧ RS h a v d (j + 1) (ap (h j) (a j) (nI x) T) p
def MM (S : Int32 → Prop) (lo hi lo' hi' : Int32) : Prop := lo' ≤ lo ∧ hi ≤ hi' ∧ (∀ p, S p → lo' ≤ p ∧ p ≤ hi') ∧ (lo' = lo ∨ S lo') ∧ (hi' = hi ∨ S hi')
theorem MM.tr {S1 S2 S : Int32 → Prop} {lo hi lo1 hi1 lo2 hi2 : Int32} (h1 : MM S1 lo hi lo1 hi1) (h2 : MM S2 lo1 hi1 lo2 hi2) (e : ∀ p, S p ↔ S1 p ∨ S2 p) : MM S lo hi lo2 hi2 := by
  obtain ⟨a1, a2, a3, a4, a5⟩ := h1
  obtain ⟨b1, b2, b3, b4, b5⟩ := h2
  refine ⟨Int32.le_trans b1 a1, Int32.le_trans a2 b2, fun p hp => ?_, ?_, ?_⟩
  · rcases (e p).mp hp with q | q
    · exact ⟨Int32.le_trans b1 (a3 p q).1, Int32.le_trans (a3 p q).2 b2⟩
    · exact b3 p q
  · rcases b4 with q | q
    · rw [q]
      rcases a4 with z | z
      · exact Or.inl z
      · exact Or.inr ((e _).mpr (Or.inl z))
    · exact Or.inr ((e _).mpr (Or.inr q))
  · rcases b5 with q | q
    · rw [q]
      rcases a5 with z | z
      · exact Or.inl z
      · exact Or.inr ((e _).mpr (Or.inl z))
    · exact Or.inr ((e _).mpr (Or.inr q))
theorem MM.cg {S S' : Int32 → Prop} {lo hi lo' hi' : Int32} (h : MM S lo hi lo' hi') (e : ∀ p, S p ↔ S' p) : MM S' lo hi lo' hi' := by
  obtain ⟨a1, a2, a3, a4, a5⟩ := h
  exact ⟨a1, a2, fun p hp => a3 p ((e p).mpr hp), a4.imp id (e _).mp, a5.imp id (e _).mp⟩
theorem MM.one {lo hi p : Int32} : MM (fun q => q = p) lo hi (if p < lo then p else lo) (if hi < p then p else hi) := by
  by_cases c1 : p < lo
  · rw [if_pos c1]
    by_cases c2 : hi < p
    · rw [if_pos c2]
      exact ⟨Int32.le_of_lt c1, Int32.le_of_lt c2, fun q hq => by rw [hq]; exact ⟨Int32.le_refl _, Int32.le_refl _⟩, Or.inr rfl, Or.inr rfl⟩
    · rw [if_neg c2]
      exact ⟨Int32.le_of_lt c1, Int32.le_refl _, fun q hq => by rw [hq]; exact ⟨Int32.le_refl _, Int32.not_lt.mp c2⟩, Or.inr rfl, Or.inl rfl⟩
  · rw [if_neg c1]
    by_cases c2 : hi < p
    · rw [if_pos c2]
      exact ⟨Int32.le_refl _, Int32.le_of_lt c2, fun q hq => by rw [hq]; exact ⟨Int32.not_lt.mp c1, Int32.le_refl _⟩, Or.inl rfl, Or.inr rfl⟩
    · rw [if_neg c2]
      exact ⟨Int32.le_refl _, Int32.le_refl _, fun q hq => by rw [hq]; exact ⟨Int32.not_lt.mp c1, Int32.not_lt.mp c2⟩, Or.inl rfl, Or.inl rfl⟩
theorem MM.zero {lo hi : Int32} : MM (fun _ => False) lo hi lo hi := ⟨Int32.le_refl _, Int32.le_refl _, fun _ q => q.elim, Or.inl rfl, Or.inl rfl⟩
theorem MM.fin {S : Int32 → Prop} {lo hi lo' hi' : Int32} (h1 : MM S 6 1 lo hi) (h2 : MM S 99 0 lo' hi') (he : ∃ p, S p) (hb : ∀ p, S p → 1 ≤ p ∧ p ≤ 6) : lo = lo' ∧ hi = hi' := by
  obtain ⟨a1, a2, a3, a4, a5⟩ := h1
  obtain ⟨b1, b2, b3, b4, b5⟩ := h2
  obtain ⟨p, hp⟩ := he
  have k1 : S lo := by
    rcases a4 with q | q
    · have := (a3 p hp).1
      rw [q] at this ⊢
      rw [Int32.le_antisymm this (hb p hp).2]
      exact hp
    · exact q
  have k2 : S hi := by
    rcases a5 with q | q
    · have := (a3 p hp).2
      rw [q] at this ⊢
      rw [Int32.le_antisymm (hb p hp).1 this]
      exact hp
    · exact q
  have k3 : S lo' := by
    rcases b4 with q | q
    · have z := Int32.le_trans (b3 p hp).1 (hb p hp).2
      rw [q] at z
      exact absurd z (by decide)
    · exact q
  have k4 : S hi' := by
    rcases b5 with q | q
    · have z := Int32.le_trans (hb p hp).1 (b3 p hp).2
      rw [q] at z
      exact absurd z (by decide)
    · exact q
  exact ⟨Int32.le_antisymm (a3 _ k3).1 (b3 _ k1).1, Int32.le_antisymm (b3 _ k2).2 (a3 _ k4).2⟩
/-! the class's ways -/
theorem note_c {I : gI} {v : Nat} (hv : v < 6) : f_X0_notePlace (nI v) I = some (g_u (g_u I 65 4 (if pl (I 83) v < I 65 4 then pl (I 83) v else I 65 4)) 65 5 (if I 65 5 < pl (I 83) v then pl (I 83) v else I 65 5)) := by
  unfold f_X0_notePlace
  have key := lpg (P := fun fu u => f_X0_notePlace_4 fu (nI v) (1 + s_sum (fun u => if I 83 u ≤ I 83 v then 0 else 1) u) (nI u) I = some (g_u (g_u I 65 4 (if pl (I 83) v < I 65 4 then pl (I 83) v else I 65 4)) 65 5 (if I 65 5 < pl (I 83) v then pl (I 83) v else I 65 5))) (n := 6) (by omega) (fun fu => ?_) (fun fu u hu ih => ?_) 0 (by omega)
  · rw [show 1 + s_sum (fun u => if I 83 u ≤ I 83 v then 0 else 1) 0 = (1 : Int32) from Int32.add_zero 1] at key
    exact key
  · rw [f_X0_notePlace_4, if_pos (show (6 : Int32) ≤ nI 6 by decide)]
    rw [show 1 + s_sum (fun u => if I 83 u ≤ I 83 v then 0 else 1) 6 = pl (I 83) v from rfl, u_nk (by omega)]
  · rw [f_X0_notePlace_4, if_neg (show ¬ (6 : Int32) ≤ nI u from nI_ge (b := 6) hu (by omega)), gin_nI hu (by omega), gin_nI hv (by omega), if_pos rfl, if_pos rfl, nI_clamp (by omega), nI_clamp (by omega)]
    unfold f_X0_notePlace_31
    rw [b_c, nI_1, Int32.add_assoc]
    rw [s_sum_s] at ih
    by_cases c : I 83 u ≤ I 83 v
    · rw [if_pos c] at ih ⊢
      exact ih
    · rw [if_neg c] at ih ⊢
      exact ih
def fr45 (I I' : gI) : Prop := ∀ b k, ¬ (b = 65 ∧ (k = 4 ∨ k = 5)) → I' b k = I b k
def rdL (m q : Nat) (L h a : Nat → Nat) (I : gI) : Prop := I 65 9 = nI q ∧ q ≤ 6 ∧ m ≤ 24 ∧ ∀ j, j < q → I 84 j = nI (L j) ∧ L j < m ∧ I (117 + 2 * L j) 0 = nI (h j) ∧ I (117 + 2 * L j) 1 = nI (a j) ∧ h j < 6 ∧ a j < 6 ∧ h j ≠ a j
theorem rdL.fr {m q : Nat} {L h a : Nat → Nat} {I I' : gI} (r : rdL m q L h a I) (f : ∀ b k, b ≠ 83 → ¬ (b = 65 ∧ (k = 4 ∨ k = 5)) → I' b k = I b k) : rdL m q L h a I' := by
  obtain ⟨r1, r2, r3, r4⟩ := r
  refine ⟨by rw [f _ _ (by omega) (by omega)]; exact r1, r2, r3, fun j hj => ?_⟩
  obtain ⟨s1, s2, s3, s4, s5⟩ := r4 j hj
  exact ⟨by rw [f _ _ (by omega) (by omega)]; exact s1, s2, by rw [f _ _ (by omega) (by omega)]; exact s3, by rw [f _ _ (by omega) (by omega)]; exact s4, s5⟩
theorem i_pm (x y : Int32) : x + y - y = x := by grind
theorem try_c {m q v : Nat} {L h a : Nat → Nat} (hv : v < 6) : ∀ (d j fu : Nat) (I1 : gI), j + d = q → d < fu → rdL m q L h a I1 → ∃ I2, f_X0_tryFrom m fu (nI j) (nI v) I1 = some I2 ∧ fr45 I1 I2 ∧ MM (RS h a v d j (I1 83)) (I1 65 4) (I1 65 5) (I2 65 4) (I2 65 5) := by
  intro d
  induction d with
  | zero =>
    intro j fu I1 h1 h2 hr
    obtain ⟨fu, rfl⟩ : ∃ f, fu = f + 1 := ⟨fu - 1, by omega⟩
    have hj : j = q := by omega
    subst hj
    rw [f_X0_tryFrom]
    unfold fb_X0_tryFrom f_X0_tryFrom_14
    rw [hr.1, if_pos (nI_le (Nat.le_refl _) (by have := hr.2.1; omega)), note_c hv]
    refine ⟨_, rfl, fun b k q => ?_, ?_⟩
    · rw [u_ap, if_neg (by omega), u_ap, if_neg (by omega)]
    · rw [u_nk (by omega), u_eq rfl rfl, u_eq rfl rfl]
      exact MM.one
  | succ d ih =>
    intro j fu I1 h1 h2 hr
    obtain ⟨fu, rfl⟩ : ∃ f, fu = f + 1 := ⟨fu - 1, by omega⟩
    obtain ⟨r1, r2, r3, r4⟩ := id hr
    obtain ⟨s1, s2, s3, s4, s5, s6, s7⟩ := r4 j (by omega)
    have hj6 : j < 6 := by omega
    rw [f_X0_tryFrom]
    unfold fb_X0_tryFrom
    rw [r1, if_neg (nI_ge (show j < q by omega) (by omega)), if_pos (show nI j < 6 from nI_lt (b := 6) hj6 (by omega)), gin_nI hj6 (by omega), if_pos rfl, nI_clamp (by omega), s1, gin_nI (show L j < 24 by omega) (by omega), if_pos rfl, nI_clamp (by omega), if_pos s2]
    have key := lpg (P := fun fu' x => ∀ I2, fr45 I1 I2 → MM (fun p => ∃ y, y < x ∧ RS h a v d (j + 1) (ap (h j) (a j) (nI y) (I1 83)) p) (I1 65 4) (I1 65 5) (I2 65 4) (I2 65 5) → ∃ I3, f_X0_tryFrom_35 m (fun y1 y2 I => f_X0_tryFrom m fu y1 y2 I) fu' (nI j) (nI v) (117 + 2 * L j) (nI x) I2 = some I3 ∧ fr45 I1 I3 ∧ MM (fun p => ∃ y, y < 3 ∧ RS h a v d (j + 1) (ap (h j) (a j) (nI y) (I1 83)) p) (I1 65 4) (I1 65 5) (I3 65 4) (I3 65 5)) (n := 3) (by omega) (fun fu' I2 a1 a2 => ?_) (fun fu' x hx ih2 I2 a1 a2 => ?_) 0 (by omega)
    · exact key I1 (fun _ _ _ => rfl) (MM.zero.cg fun p => ⟨fun q => q.elim, fun ⟨y, hy, _⟩ => absurd hy (by omega)⟩)
    · refine ⟨I2, ?_, a1, a2⟩
      rw [f_X0_tryFrom_35, if_pos (show (2 : Int32) < nI 3 by decide)]
    · have k0 : I2 (117 + 2 * L j) 0 = nI (h j) := by rw [a1 _ _ (by omega)]; exact s3
      have k1 : I2 (117 + 2 * L j) 1 = nI (a j) := by rw [a1 _ _ (by omega)]; exact s4
      have e82 : I2 83 = I1 83 := funext fun u => a1 83 u (by omega)
      obtain ⟨I3, eI3⟩ : ∃ I3, I3 = g_u (g_u I2 83 (h j) (I2 83 (h j) + nI x)) 83 (a j) (I2 83 (a j) + (2 - nI x)) := ⟨_, rfl⟩
      have f3 : ∀ b k, b ≠ 83 → I3 b k = I2 b k := fun b k q => by rw [eI3, u_na q, u_na q]
      have t3 : I3 83 = ap (h j) (a j) (nI x) (I1 83) := by
        funext u
        rw [eI3, u_ap, u_ap, e82]
        unfold ap
        by_cases q1 : u = a j
        · simp [q1]
        · by_cases q2 : u = h j
          · simp [q2, s7]
          · simp [q1, q2]
      obtain ⟨I4, b1, b2, b3⟩ := ih (j + 1) fu I3 (by omega) (by omega) (hr.fr fun b k q1 q2 => by rw [f3 b k q1, a1 b k q2])
      have t4 : I4 83 = ap (h j) (a j) (nI x) (I1 83) := by
        rw [← t3]
        exact funext fun u => b2 83 u (by omega)
      have m0 : I4 (117 + 2 * L j) 0 = nI (h j) := by rw [b2 _ _ (by omega), f3 _ _ (by omega)]; exact k0
      have m1 : I4 (117 + 2 * L j) 1 = nI (a j) := by rw [b2 _ _ (by omega), f3 _ _ (by omega)]; exact k1
      have gh : g_in (nI (h j)) 6 = true := gin_nI s5 (by omega)
      have ga : g_in (nI (a j)) 6 = true := gin_nI s6 (by omega)
      have ch' : (nI (h j)).toNatClampNeg = h j := nI_clamp (by omega)
      have ca' : (nI (a j)).toNatClampNeg = a j := nI_clamp (by omega)
      rw [f_X0_tryFrom_35, if_neg (show ¬ (2 : Int32) < nI x from nI_nlt (a := 2) (by omega) (by omega))]
      have ne1 : (117 + 2 * L j) ≠ 83 := by omega
      simp only [k0, gh, ch', u_na ne1, k1, ga, ca', if_true]
      rw [show (g_u I2 83 (h j) (I2 83 (h j) + nI x)) 83 (a j) = I2 83 (a j) from u_nk (fun q => s7 q.symm), ← eI3, nI_1, b1, Option.bind_some]
      simp only [m0, gh, ch', u_na ne1, m1, ga, ca', if_true]
      rw [show (g_u I4 83 (h j) (I4 83 (h j) - nI x)) 83 (a j) = I4 83 (a j) from u_nk (fun q => s7 q.symm), nI_1]
      have z1 : I4 83 (h j) - nI x = I1 83 (h j) := by
        rw [t4]
        unfold ap
        rw [if_neg s7, if_pos rfl, i_pm]
      have z2 : I4 83 (a j) - (2 - nI x) = I1 83 (a j) := by
        rw [t4]
        unfold ap
        rw [if_pos rfl, i_pm]
      rw [z1, z2]
      refine ih2 _ (fun b k q => ?_) ?_
      · rw [u_ap, u_ap]
        by_cases q1 : b = 83
        · subst q1
          by_cases q2 : k = a j
          · rw [if_pos ⟨rfl, q2⟩, q2]
          · rw [if_neg (fun z => q2 z.2)]
            by_cases q3 : k = h j
            · rw [if_pos ⟨rfl, q3⟩, q3]
            · rw [if_neg (fun z => q3 z.2), t4]
              unfold ap
              rw [if_neg q2, if_neg q3]
        · rw [if_neg (fun z => q1 z.1), if_neg (fun z => q1 z.1), b2 b k q, f3 b k q1, a1 b k q]
      · rw [u_na (by omega), u_na (by omega), u_na (by omega), u_na (by omega)]
        rw [t3, f3 65 4 (by omega), f3 65 5 (by omega)] at b3
        refine a2.tr b3 fun p => ⟨fun ⟨y, hy, hp⟩ => ?_, fun hp => ?_⟩
        · by_cases e : y = x
          · subst e
            exact Or.inr hp
          · exact Or.inl ⟨y, by omega, hp⟩
        · rcases hp with ⟨y, hy, hp⟩ | hp
          · exact ⟨y, by omega, hp⟩
          · exact ⟨x, by omega, hp⟩
