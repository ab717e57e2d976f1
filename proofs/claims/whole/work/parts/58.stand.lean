/-! the class's sums, all matches -/
def rd (m : Nat) (I I1 : gI) : Prop := I1 65 1 = nI m ∧ ∀ k, k < m → I1 (117 + 2 * k) 0 = nI ((tt I).1 k) ∧ I1 (117 + 2 * k) 1 = nI ((tt I).2.1 k) ∧ st_ok I I1 k
def t_ok (m : Nat) (t : gT) : Prop := ∀ k, k < m → t.1 k < 6 ∧ t.2.1 k < 6 ∧ t.1 k ≠ t.2.1 k
theorem rd.fr {m : Nat} {I I1 I2 : gI} (h : rd m I I1) (f : ∀ c j, (c = 65 ∧ j = 1) ∨ 117 ≤ c → I2 c j = I1 c j) : rd m I I2 := by
  refine ⟨by rw [f 65 1 (by omega)]; exact h.1, fun k hk => ?_⟩
  obtain ⟨a1, a2, a3, a4, a5⟩ := h.2 k hk
  exact ⟨by rw [f _ _ (by omega)]; exact a1, by rw [f _ _ (by omega)]; exact a2, by rw [f _ _ (by omega)]; exact a3, by rw [f _ _ (by omega)]; exact a4, by rw [f _ _ (by omega)]; exact a5⟩
theorem zero_in {m k : Nat} (k2 : Int32 → gI → Option gI) (I : gI) (hk : k < 6) : ∃ I2, f_X0_sumUp_10 m k2 g_fuel (nI k) 0 I = k2 (nI k + 1) I2 ∧ (∀ c j, c ≠ 70 + k → I2 c j = I c j) ∧ ∀ v, v < 6 → I2 (70 + k) v = 0 := by
  refine lpg (P := fun fu v => ∀ I1, (∀ c j, c ≠ 70 + k → I1 c j = I c j) → (∀ u, u < v → I1 (70 + k) u = 0) → ∃ I2, f_X0_sumUp_10 m k2 fu (nI k) (nI v) I1 = k2 (nI k + 1) I2 ∧ (∀ c j, c ≠ 70 + k → I2 c j = I c j) ∧ ∀ v, v < 6 → I2 (70 + k) v = 0) (n := 6) (by omega) (fun fu I1 a1 a2 => ?_) (fun fu v hv ih I1 a1 a2 => ?_) 0 (by omega) I (fun _ _ _ => rfl) (fun u hu => absurd hu (by omega))
  · refine ⟨I1, ?_, a1, a2⟩
    rw [f_X0_sumUp_10, if_pos (show (6 : Int32) ≤ nI 6 by decide)]
  · rw [f_X0_sumUp_10, if_neg (show ¬ (6 : Int32) ≤ nI v from nI_ge (b := 6) hv (by omega)), gin_nI hk (by omega), gin_nI hv (by omega), if_pos rfl, if_pos rfl, nI_clamp (by omega), nI_clamp (by omega), nI_1]
    refine ih _ (fun c j q => by rw [u_na q]; exact a1 c j q) (fun u hu => ?_)
    by_cases e : u = v
    · rw [u_eq rfl e]
    · rw [u_nk e]
      exact a2 u (by omega)
theorem zero_c {m : Nat} (I : gI) : ∃ I', f_X0_sumUp m I = f_X0_sumUp_39 m g_fuel 0 I' ∧ (∀ c j, ¬ (70 ≤ c ∧ c ≤ 75) → I' c j = I c j) ∧ ∀ w, w < 6 → ∀ v, v < 6 → I' (70 + w) v = 0 := by
  unfold f_X0_sumUp
  refine lpg (P := fun fu k => ∀ I1, (∀ c j, ¬ (70 ≤ c ∧ c ≤ 75) → I1 c j = I c j) → (∀ w, w < k → ∀ v, v < 6 → I1 (70 + w) v = 0) → ∃ I', f_X0_sumUp_2 m fu (nI k) I1 = f_X0_sumUp_39 m g_fuel 0 I' ∧ (∀ c j, ¬ (70 ≤ c ∧ c ≤ 75) → I' c j = I c j) ∧ ∀ w, w < 6 → ∀ v, v < 6 → I' (70 + w) v = 0) (n := 6) (by omega) (fun fu I1 a1 a2 => ?_) (fun fu k hk ih I1 a1 a2 => ?_) 0 (by omega) I (fun _ _ _ => rfl) (fun u hu => absurd hu (by omega))
  · refine ⟨I1, ?_, a1, a2⟩
    rw [f_X0_sumUp_2, if_pos (show (6 : Int32) ≤ nI 6 by decide)]
  · obtain ⟨I2, b1, b2, b3⟩ := zero_in (m := m) (fun x1 I => f_X0_sumUp_2 m fu x1 I) I1 hk
    rw [f_X0_sumUp_2, if_neg (show ¬ (6 : Int32) ≤ nI k from nI_ge (b := 6) hk (by omega)), b1]
    try dsimp only
    rw [nI_1]
    refine ih I2 (fun c j q => by rw [b2 c j (by omega)]; exact a1 c j q) (fun w hw v hv => ?_)
    by_cases e : w = k
    · rw [e]
      exact b3 v hv
    · rw [b2 _ _ (by omega)]
      exact a2 w (by omega) v hv
theorem sum_c {m : Nat} {I I1 : gI} (hm : m ≤ 24) (hr : rd m I I1) (ht : t_ok m (tt I)) : ∃ I', f_X0_sumUp m I1 = some I' ∧ (∀ c j, ¬ (70 ≤ c ∧ c ≤ 75) → I' c j = I1 c j) ∧ ∀ w, w < 6 → ∀ v, v < 6 → I' (70 + w) v = t_S (tt I) m w v := by
  obtain ⟨I0, z1, z2, z3⟩ := zero_c (m := m) I1
  rw [z1]
  refine lpg (P := fun fu k => ∀ I2, (∀ c j, ¬ (70 ≤ c ∧ c ≤ 75) → I2 c j = I1 c j) → (∀ w, w < 6 → ∀ v, v < 6 → I2 (70 + w) v = s_sum (t_D (tt I) (fun _ => true) w v) k) → ∃ I', f_X0_sumUp_39 m fu (nI k) I2 = some I' ∧ (∀ c j, ¬ (70 ≤ c ∧ c ≤ 75) → I' c j = I1 c j) ∧ ∀ w, w < 6 → ∀ v, v < 6 → I' (70 + w) v = t_S (tt I) m w v) (n := m) (by omega) (fun fu I2 a1 a2 => ?_) (fun fu k hk ih I2 a1 a2 => ?_) 0 (by omega) I0 z2 z3
  · refine ⟨I2, ?_, a1, a2⟩
    rw [f_X0_sumUp_39, a1 65 1 (by omega), hr.1, if_pos (nI_le (Nat.le_refl _) (by omega))]
  · obtain ⟨r0, r1, r9, r7, r8⟩ := hr.2 k hk
    obtain ⟨t1, t2, t3⟩ := ht k hk
    have f0 : I2 (117 + 2 * k) 0 = nI ((tt I).1 k) := by rw [a1 _ _ (by omega)]; exact r0
    have f9 : I2 (117 + 2 * k) 9 = (M_res I k).1 := by rw [a1 _ _ (by omega)]; exact r9
    have f7 : I2 (117 + 2 * k) 7 = (M_res I k).2.1 := by rw [a1 _ _ (by omega)]; exact r7
    have f8 : I2 (117 + 2 * k) 8 = (M_res I k).2.2.1 := by rw [a1 _ _ (by omega)]; exact r8
    obtain ⟨I3, b1, b2, b3⟩ := add_c (I := I2) (a := (tt I).1 k) (h := 117 + 2 * k) (x3 := (M_res I k).2.1) (x4 := (M_res I k).2.2.1) (b := true) t1 (by omega) (by rw [f0]; simp) (by rw [f9]; exact M_res4 I k)
    have g0 : I3 (117 + 2 * k) 0 = nI ((tt I).1 k) := by rw [b2 _ _ (by omega)]; exact f0
    have g1 : I3 (117 + 2 * k) 1 = nI ((tt I).2.1 k) := by rw [b2 _ _ (by omega), a1 _ _ (by omega)]; exact r1
    have g9 : I3 (117 + 2 * k) 9 = (M_res I k).1 := by rw [b2 _ _ (by omega)]; exact f9
    have g7 : I3 (117 + 2 * k) 7 = (M_res I k).2.1 := by rw [b2 _ _ (by omega)]; exact f7
    have g8 : I3 (117 + 2 * k) 8 = (M_res I k).2.2.1 := by rw [b2 _ _ (by omega)]; exact f8
    obtain ⟨I4, d1, d2, d3⟩ := add_c (I := I3) (a := (tt I).2.1 k) (h := 117 + 2 * k) (x3 := (M_res I k).2.2.1) (x4 := (M_res I k).2.1) (b := false) t2 (by omega) (by
      rw [g0]
      simp only [Bool.false_eq_true, eq_iff_iff, iff_false]
      exact fun q => t3 ((nI_eq (by omega) (by omega)).mp q).symm) (by rw [g9]; exact M_res4 I k)
    rw [f_X0_sumUp_39, a1 65 1 (by omega), hr.1, if_neg (nI_ge hk (by omega)), gin_nI (by omega) (by omega), if_pos rfl, nI_clamp (by omega), if_pos hk, f0, f7, f8, b1, Option.bind_some, g1, g7, g8, d1, Option.bind_some, nI_1]
    refine ih I4 (fun c j q => by rw [d2 c j q, b2 c j q]; exact a1 c j q) (fun w hw v hv => ?_)
    rw [d3 w hw v, b3 w hw v, a2 w hw v hv, g9, f9, s_sum_s]
    simp only [if_true, Bool.false_eq_true, if_false]
    rw [Int32.add_assoc]
    refine congrArg (fun z => s_sum (t_D (tt I) (fun _ => true) w v) k + z) ?_
    unfold t_D t_in t_g
    by_cases q1 : v = (tt I).1 k
    · have q2 : ¬ v = (tt I).2.1 k := fun q => t3 (by rw [← q1, q])
      rw [if_pos q1, if_neg q2, if_pos (c := _ ∧ _) ⟨decide_eq_true (Or.inl q1.symm), rfl⟩, Int32.add_zero, decide_eq_true q1.symm]
      rfl
    · by_cases q2 : v = (tt I).2.1 k
      · rw [if_neg q1, if_pos q2, if_pos (c := _ ∧ _) ⟨decide_eq_true (Or.inr q2.symm), rfl⟩, Int32.zero_add, decide_eq_false (fun q => q1 q.symm)]
        rfl
      · rw [if_neg q1, if_neg q2, if_neg (c := _ ∧ _) (fun q => absurd (of_decide_eq_true q.1) (by omega))]
        rfl
/-! keys and places -/
def t_M (t : gT) (m : Nat) (al : Nat → Nat → Bool) (v : Nat) : Int32 := s_sum (fun k => if t_in t k v = true ∧ al (t.1 k) (t.2.1 k) = true then 2 * t_g t 1 v k + t_g t 2 v k else 0) m
def t_K (t : gT) (m : Nat) (w : Int32) (al : Nat → Nat → Bool) (v : Nat) : Int32 := if w = 0 then 2 * t_S t m 1 v + t_S t m 2 v else if w = 1 then t_S t m 1 v else if w = 2 then t_S t m 4 v - t_S t m 5 v else if w = 3 then t_S t m 4 v else t_M t m al v
def t_A (t : gT) (m : Nat) : Nat → Nat → Nat → Bool
  | 0 => fun _ _ => true
  | k + 1 => fun u v => t_A t m k u v && decide (t_K t m (t.2.2.2 k) (t_A t m k) u = t_K t m (t.2.2.2 k) (t_A t m k) v)
def t_Y (t : gT) (m k v : Nat) : Int32 := t_K t m (t.2.2.2 k) (t_A t m k) v
section KEYS
variable {t : gT} {m : Nat}
theorem t_A_s (k u v : Nat) : t_A t m (k + 1) u v = (t_A t m k u v && decide (t_Y t m k u = t_Y t m k v)) := rfl
theorem t_A_r : ∀ k u, t_A t m k u u = true := by
  intro k
  induction k with
  | zero => intro u; rfl
  | succ k ih =>
    intro u
    rw [t_A_s, ih u]
    simp
theorem t_A_y : ∀ k u v, t_A t m k u v = t_A t m k v u := by
  intro k
  induction k with
  | zero => intro u v; rfl
  | succ k ih =>
    intro u v
    rw [t_A_s, t_A_s, ih u v, decide_eq_decide.mpr (eq_comm (a := t_Y t m k u))]
theorem t_A_t : ∀ k u v w, t_A t m k u v = true → t_A t m k v w = true → t_A t m k u w = true := by
  intro k
  induction k with
  | zero => intro u v w _ _; rfl
  | succ k ih =>
    intro u v w h1 h2
    rw [t_A_s, Bool.and_eq_true, decide_eq_true_iff] at h1 h2 ⊢
    exact ⟨ih u v w h1.1 h2.1, h1.2.trans h2.2⟩
theorem t_A_d {j : Nat} : ∀ k u v, j ≤ k → t_A t m k u v = true → t_A t m j u v = true := by
  intro k
  induction k with
  | zero =>
    intro u v h _
    rw [show j = 0 by omega]
    rfl
  | succ k ih =>
    intro u v h h2
    by_cases e : j = k + 1
    · rw [e]
      exact h2
    · rw [t_A_s, Bool.and_eq_true] at h2
      exact ih u v (by omega) h2.1
theorem alike_c {I1 : gI} {k u v : Nat} (hk : k ≤ 5) (hu : u < 6) (hv : v < 6) (hy : ∀ j, j < k → ∀ v, v < 6 → I1 (77 + j) v = t_Y t m j v) : f_X0_areAlike (nI u) (nI v) (nI k) I1 = some (t_A t m k u v) := by
  unfold f_X0_areAlike
  refine lpg (P := fun fu j => t_A t m j u v = true → f_X0_areAlike_3 fu (nI u) (nI v) (nI k) (nI j) I1 = some (t_A t m k u v)) (n := k) (by omega) (fun fu a => ?_) (fun fu j hj ih a => ?_) 0 (by omega) rfl
  · rw [f_X0_areAlike_3, if_pos (nI_le (Nat.le_refl _) (by omega)), a]
  · rw [f_X0_areAlike_3, if_neg (nI_ge hj (by omega)), gin_nI (show j < 5 by omega) (by omega), gin_nI hu (by omega), gin_nI hv (by omega)]
    simp only [if_true]
    rw [nI_clamp (by omega), nI_clamp (by omega), nI_clamp (by omega), hy j hj u hu, hy j hj v hv, nI_1]
    by_cases c : t_Y t m j u = t_Y t m j v
    · rw [if_pos c]
      refine ih ?_
      rw [t_A_s, a, decide_eq_true c]
      rfl
    · rw [if_neg c]
      congr 1
      symm
      rw [← Bool.not_eq_true]
      intro q
      have := t_A_d (j := j + 1) k u v (by omega) q
      rw [t_A_s, decide_eq_false c, Bool.and_false] at this
      cases this
end KEYS
theorem tf_v {st p q : Int32} {b : Bool} (h4 : st = 0 ∨ st = 1 ∨ st = 2 ∨ st = 3) : (if st = 3 then (1 : Int32) else if st = (if b = true then 1 else 2) then 2 else 0) = 2 * gV 1 b st p q + gV 2 b st p q := by
  rcases h4 with rfl | rfl | rfl | rfl <;> cases b <;> first | rfl | simp [gV]
theorem among_c {m : Nat} {I I1 : gI} {k v : Nat} (hm : m ≤ 24) (hr : rd m I I1) (ht : t_ok m (tt I)) (hk : k ≤ 5) (hv : v < 6) (hy : ∀ j, j < k → ∀ v, v < 6 → I1 (77 + j) v = t_Y (tt I) m j v) : f_X0_tableAmongLikes m (nI v) (nI k) I1 = some (t_M (tt I) m (t_A (tt I) m k) v) := by
  unfold f_X0_tableAmongLikes t_M
  obtain ⟨F, eF⟩ : ∃ F, F = fun i => if t_in (tt I) i v = true ∧ t_A (tt I) m k ((tt I).1 i) ((tt I).2.1 i) = true then 2 * t_g (tt I) 1 v i + t_g (tt I) 2 v i else 0 := ⟨_, rfl⟩
  rw [← eF]
  refine lpg (P := fun fu i => f_X0_tableAmongLikes_5 m fu (nI v) (nI k) (s_sum F i) (nI i) I1 = some (s_sum F m)) (n := m) (by omega) (fun fu => ?_) (fun fu i hi ih => ?_) 0 (by omega)
  · rw [f_X0_tableAmongLikes_5, hr.1, if_pos (nI_le (Nat.le_refl _) (by omega))]
  · obtain ⟨r0, r1, r9, r7, r8⟩ := hr.2 i hi
    obtain ⟨t1, t2, t3⟩ := ht i hi
    have hF : F i = if t_in (tt I) i v = true ∧ t_A (tt I) m k ((tt I).1 i) ((tt I).2.1 i) = true then 2 * t_g (tt I) 1 v i + t_g (tt I) 2 v i else 0 := by rw [eF]
    have hof : f_X4_isOf (117 + 2 * i) (nI v) I1 = t_in (tt I) i v := by
      unfold f_X4_isOf f_X4_isOf_16 t_in
      rw [r0, r1]
      by_cases q1 : (tt I).1 i = v
      · rw [if_pos (by rw [q1]), decide_eq_true (Or.inl q1)]
      · rw [if_neg (fun q => q1 ((nI_eq (by omega) (by omega)).mp q).symm)]
        by_cases q2 : (tt I).2.1 i = v
        · rw [if_pos (by rw [q2]), decide_eq_true (Or.inr q2)]
        · rw [if_neg (fun q => q2 ((nI_eq (by omega) (by omega)).mp q).symm), decide_eq_false (by omega)]
    have htf : f_X4_tableFor (117 + 2 * i) (nI v) I1 = 2 * t_g (tt I) 1 v i + t_g (tt I) 2 v i := by
      unfold f_X4_tableFor f_X4_tableFor_27 t_g
      rw [r9, r0]
      have eb : (if nI v = nI ((tt I).1 i) then (1 : Int32) else 2) = if decide ((tt I).1 i = v) = true then 1 else 2 := by
        by_cases q1 : (tt I).1 i = v
        · rw [if_pos (by rw [q1]), if_pos (decide_eq_true q1)]
        · rw [if_neg (fun q => q1 ((nI_eq (by omega) (by omega)).mp q).symm), if_neg (by simpa using q1)]
      rw [eb]
      exact tf_v (M_res4 I i)
    rw [f_X0_tableAmongLikes_5, hr.1, if_neg (nI_ge hi (by omega)), gin_nI (by omega) (by omega), if_pos rfl, nI_clamp (by omega), if_pos hi, hof, r0, r1, alike_c (t := tt I) (m := m) hk t1 t2 hy, htf]
    unfold f_X0_tableAmongLikes_59
    simp only [Option.bind_some, nI_1]
    rw [s_sum_s, hF] at ih
    by_cases c1 : t_in (tt I) i v = false
    · rw [if_pos c1]
      rw [if_neg (fun q => by rw [c1] at q; exact absurd q.1 (by decide)), Int32.add_zero] at ih
      exact ih
    · rw [if_neg c1]
      have c1' : t_in (tt I) i v = true := by simpa using c1
      by_cases c2 : t_A (tt I) m k ((tt I).1 i) ((tt I).2.1 i) = false
      · rw [if_pos c2]
        rw [if_neg (fun q => by rw [c2] at q; exact absurd q.2 (by decide)), Int32.add_zero] at ih
        exact ih
      · rw [if_neg c2]
        rw [if_pos ⟨c1', by simpa using c2⟩] at ih
        exact ih
theorem table_c {I1 : gI} {t : gT} {m v : Nat} (hv : v < 6) (hS : ∀ w, w < 6 → ∀ v, v < 6 → I1 (70 + w) v = t_S t m w v) : f_X0_table (nI v) I1 = some (2 * t_S t m 1 v + t_S t m 2 v) := by
  have g1 : g_in 1 6 = true := by decide
  have g2 : g_in 2 6 = true := by decide
  have n1 : Int32.toNatClampNeg 1 = 1 := by decide
  have n2 : Int32.toNatClampNeg 2 = 2 := by decide
  unfold f_X0_table
  simp only [g1, g2, n1, n2, gin_nI hv (show 6 < 2 ^ 31 by omega), nI_clamp (show v < 2 ^ 31 by omega), if_true]
  rw [hS 1 (by omega) v hv, hS 2 (by omega) v hv]
theorem key_c {m : Nat} {I I1 : gI} {k v : Nat} (hm : m ≤ 24) (hr : rd m I I1) (ht : t_ok m (tt I)) (hk : k < 5) (hv : v < 6) (hw : I1 68 k = I 114 k) (hS : ∀ w, w < 6 → ∀ v, v < 6 → I1 (70 + w) v = t_S (tt I) m w v) (hy : ∀ j, j < k → ∀ v, v < 6 → I1 (77 + j) v = t_Y (tt I) m j v) : f_X0_keyOf m (nI v) (nI k) I1 = some (t_Y (tt I) m k v) := by
  have g1 : g_in 1 6 = true := by decide
  have g4 : g_in 4 6 = true := by decide
  have g5 : g_in 5 6 = true := by decide
  have n1 : Int32.toNatClampNeg 1 = 1 := by decide
  have n4 : Int32.toNatClampNeg 4 = 4 := by decide
  have n5 : Int32.toNatClampNeg 5 = 5 := by decide
  unfold f_X0_keyOf
  rw [table_c hv hS, among_c hm hr ht (by omega) hv hy]
  simp only [g1, g4, g5, n1, n4, n5, gin_nI hk (show 5 < 2 ^ 31 by omega), gin_nI hv (show 6 < 2 ^ 31 by omega), nI_clamp (show k < 2 ^ 31 by omega), nI_clamp (show v < 2 ^ 31 by omega), if_true, Option.bind_some]
  rw [hS 1 (by omega) v hv, hS 4 (by omega) v hv, hS 5 (by omega) v hv, hw]
  unfold t_Y t_K
  rw [show (tt I).2.2.2 k = I 114 k from rfl]
  by_cases w0 : I 114 k = 0
  · rw [if_pos w0, if_pos w0]
  by_cases w1 : I 114 k = 1
  · rw [if_neg w0, if_neg w0, if_pos w1, if_pos w1]
  by_cases w2 : I 114 k = 2
  · rw [if_neg w0, if_neg w0, if_neg w1, if_neg w1, if_pos w2, if_pos w2]
  by_cases w3 : I 114 k = 3
  · rw [if_neg w0, if_neg w0, if_neg w1, if_neg w1, if_neg w2, if_neg w2, if_pos w3, if_pos w3]
  · rw [if_neg w0, if_neg w0, if_neg w1, if_neg w1, if_neg w2, if_neg w2, if_neg w3, if_neg w3]
