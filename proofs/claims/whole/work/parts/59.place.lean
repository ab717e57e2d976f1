/-! places, of both; standing -/
theorem keys_in {m : Nat} {I I1 : gI} {k : Nat} (x1 : Int32) (k2 : Int32 → Int32 → gI → Option (Int32 × gI)) (hm : m ≤ 24) (hr : rd m I I1) (ht : t_ok m (tt I)) (hk : k < 5) (hw : I1 68 k = I 114 k) (hS : ∀ w, w < 6 → ∀ v, v < 6 → I1 (70 + w) v = t_S (tt I) m w v) (hy : ∀ j, j < k → ∀ v, v < 6 → I1 (77 + j) v = t_Y (tt I) m j v) : ∃ I2, f_X0_place_15 m k2 g_fuel x1 (nI k) 0 I1 = k2 x1 (nI k + 1) I2 ∧ (∀ c j, c ≠ 77 + k → I2 c j = I1 c j) ∧ ∀ v, v < 6 → I2 (77 + k) v = t_Y (tt I) m k v := by
  refine lpg (P := fun fu v => ∀ I2, (∀ c j, c ≠ 77 + k → I2 c j = I1 c j) → (∀ u, u < v → I2 (77 + k) u = t_Y (tt I) m k u) → ∃ I3, f_X0_place_15 m k2 fu x1 (nI k) (nI v) I2 = k2 x1 (nI k + 1) I3 ∧ (∀ c j, c ≠ 77 + k → I3 c j = I1 c j) ∧ ∀ v, v < 6 → I3 (77 + k) v = t_Y (tt I) m k v) (n := 6) (by omega) (fun fu I2 a1 a2 => ?_) (fun fu v hv ih I2 a1 a2 => ?_) 0 (by omega) I1 (fun _ _ _ => rfl) (fun u hu => absurd hu (by omega))
  · refine ⟨I2, ?_, a1, a2⟩
    rw [f_X0_place_15, if_pos (show (6 : Int32) ≤ nI 6 by decide)]
  · have hk2 := key_c (I := I) (I1 := I2) (k := k) (v := v) hm (hr.fr fun c j q => a1 c j (by omega)) ht hk hv (by rw [a1 _ _ (by omega)]; exact hw) (fun w hw v hv => by rw [a1 _ _ (by omega)]; exact hS w hw v hv) (fun j hj v hv => by rw [a1 _ _ (by omega)]; exact hy j hj v hv)
    rw [f_X0_place_15, if_neg (show ¬ (6 : Int32) ≤ nI v from nI_ge (b := 6) hv (by omega)), gin_nI hk (by omega), if_pos rfl, hk2, Option.bind_some, gin_nI hv (by omega), if_pos rfl, nI_clamp (by omega), nI_clamp (by omega), nI_1]
    refine ih _ (fun c j q => by rw [u_na q]; exact a1 c j q) (fun u hu => ?_)
    by_cases e : u = v
    · subst e
      rw [u_eq rfl rfl]
    · rw [u_nk e]
      exact a2 u (by omega)
theorem keys_c {m : Nat} {I I1 : gI} {o : Nat} (x1 : Int32) (hm : m ≤ 24) (hr : rd m I I1) (ht : t_ok m (tt I)) (ho : o ≤ 5) (h67 : I1 67 1 = nI o) (hw : ∀ k, k < o → I1 68 k = I 114 k) (hS : ∀ w, w < 6 → ∀ v, v < 6 → I1 (70 + w) v = t_S (tt I) m w v) : ∃ I2, f_X0_place m x1 I1 = f_X0_place_51 m g_fuel x1 1 0 I2 ∧ (∀ c j, ¬ (77 ≤ c ∧ c ≤ 81) → I2 c j = I1 c j) ∧ ∀ k, k < o → ∀ v, v < 6 → I2 (77 + k) v = t_Y (tt I) m k v := by
  unfold f_X0_place
  refine lpg (P := fun fu k => ∀ I2, (∀ c j, ¬ (77 ≤ c ∧ c ≤ 81) → I2 c j = I1 c j) → (∀ j, j < k → ∀ v, v < 6 → I2 (77 + j) v = t_Y (tt I) m j v) → ∃ I3, f_X0_place_2 m fu x1 (nI k) I2 = f_X0_place_51 m g_fuel x1 1 0 I3 ∧ (∀ c j, ¬ (77 ≤ c ∧ c ≤ 81) → I3 c j = I1 c j) ∧ ∀ k, k < o → ∀ v, v < 6 → I3 (77 + k) v = t_Y (tt I) m k v) (n := o) (by omega) (fun fu I2 a1 a2 => ?_) (fun fu k hk ih I2 a1 a2 => ?_) 0 (by omega) I1 (fun _ _ _ => rfl) (fun u hu => absurd hu (by omega))
  · refine ⟨I2, ?_, a1, a2⟩
    rw [f_X0_place_2, a1 67 1 (by omega), h67, if_pos (nI_le (Nat.le_refl _) (by omega))]
  · obtain ⟨I3, b1, b2, b3⟩ := keys_in (I := I) (I1 := I2) (k := k) x1 (fun x1 x2 I => f_X0_place_2 m fu x1 x2 I) hm (hr.fr fun c j q => a1 c j (by omega)) ht (by omega) (by rw [a1 _ _ (by omega)]; exact hw k hk) (fun w hw v hv => by rw [a1 _ _ (by omega)]; exact hS w hw v hv) a2
    rw [f_X0_place_2, a1 67 1 (by omega), h67, if_neg (nI_ge hk (by omega)), b1]
    try dsimp only
    rw [nI_1]
    refine ih I3 (fun c j q => by rw [b2 c j (by omega)]; exact a1 c j q) (fun j hj v hv => ?_)
    by_cases e : j = k
    · subst e
      exact b3 v hv
    · rw [b2 _ _ (by omega)]
      exact a2 j (by omega) v hv
def t_E (t : gT) (m v k u : Nat) : Int32 := if t_A t m k u v = true ∧ ¬ t_Y t m k u ≤ t_Y t m k v then 1 else 0
def t_C (t : gT) (m v : Nat) : Nat → Nat → Int32
  | 0 => fun _ => 0
  | k + 1 => fun u => t_C t m v k u + t_E t m v k u
section PL
variable {t : gT} {m : Nat}
theorem t_C_a {v : Nat} : ∀ k u, t_A t m k u v = true → t_C t m v k u = 0 := by
  intro k
  induction k with
  | zero => intro u _; rfl
  | succ k ih =>
    intro u h
    rw [t_A_s, Bool.and_eq_true, decide_eq_true_iff] at h
    show t_C t m v k u + t_E t m v k u = 0
    rw [ih u h.1, show t_E t m v k u = 0 from if_neg (fun q => q.2 (by rw [h.2]; exact Int32.le_refl _))]
    rfl
theorem t_C_b {v j u : Nat} (h : t_A t m j u v = false) : ∀ k, j ≤ k → t_C t m v k u = t_C t m v j u := by
  intro k
  induction k with
  | zero =>
    intro hk
    rw [show j = 0 by omega]
  | succ k ih =>
    intro hk
    by_cases e : j = k + 1
    · rw [e]
    · show t_C t m v k u + t_E t m v k u = _
      rw [ih (by omega), show t_E t m v k u = 0 from if_neg (fun q => by
        have := t_A_d (j := j) k u v (by omega) q.1
        rw [h] at this
        cases this), Int32.add_zero]
theorem ahead_c {I2 : gI} {o u v : Nat} (ho : o ≤ 5) (h67 : I2 67 1 = nI o) (hu : u < 6) (hv : v < 6) (hy : ∀ k, k < o → ∀ v, v < 6 → I2 (77 + k) v = t_Y t m k v) : ∃ b, f_X0_isAhead (nI u) (nI v) I2 = some b ∧ (if b = true then (1 : Int32) else 0) = t_C t m v o u := by
  unfold f_X0_isAhead
  refine lpg (P := fun fu k => t_A t m k u v = true → ∃ b, f_X0_isAhead_2 fu (nI u) (nI v) (nI k) I2 = some b ∧ (if b = true then (1 : Int32) else 0) = t_C t m v o u) (n := o) (by omega) (fun fu a => ?_) (fun fu k hk ih a => ?_) 0 (by omega) rfl
  · refine ⟨false, ?_, ?_⟩
    · rw [f_X0_isAhead_2, h67, if_pos (nI_le (Nat.le_refl _) (by omega))]
    · rw [t_C_a o u a]
      rfl
  · rw [f_X0_isAhead_2, h67, if_neg (nI_ge hk (by omega)), gin_nI (show k < 5 by omega) (by omega), gin_nI hu (by omega), gin_nI hv (by omega)]
    simp only [if_true]
    rw [nI_clamp (by omega), nI_clamp (by omega), nI_clamp (by omega), hy k hk u hu, hy k hk v hv, nI_1]
    by_cases c : t_Y t m k u = t_Y t m k v
    · rw [if_pos c]
      refine ih ?_
      rw [t_A_s, a, decide_eq_true c]
      rfl
    · rw [if_neg c]
      have hA : t_A t m (k + 1) u v = false := by rw [t_A_s, decide_eq_false c, Bool.and_false]
      have hC : t_C t m v o u = t_E t m v k u := by
        rw [t_C_b hA o (by omega)]
        show t_C t m v k u + t_E t m v k u = _
        rw [t_C_a k u a, Int32.zero_add]
      rw [hC]
      by_cases c2 : t_Y t m k u ≤ t_Y t m k v
      · rw [if_pos c2]
        exact ⟨false, rfl, (if_neg (fun q => q.2 c2)).symm⟩
      · rw [if_neg c2]
        exact ⟨true, rfl, (if_pos ⟨a, c2⟩).symm⟩
theorem place_c {I2 : gI} {o v : Nat} (ho : o ≤ 5) (h67 : I2 67 1 = nI o) (hv : v < 6) (hy : ∀ k, k < o → ∀ v, v < 6 → I2 (77 + k) v = t_Y t m k v) : f_X0_place_51 m g_fuel (nI v) 1 0 I2 = some (1 + s_sum (t_C t m v o) 6, I2) := by
  have key := lpg (P := fun fu u => f_X0_place_51 m fu (nI v) (1 + s_sum (t_C t m v o) u) (nI u) I2 = some (1 + s_sum (t_C t m v o) 6, I2)) (n := 6) (by omega) (fun fu => ?_) (fun fu u hu ih => ?_) 0 (by omega)
  · rw [show 1 + s_sum (t_C t m v o) 0 = (1 : Int32) from Int32.add_zero 1] at key
    exact key
  · rw [f_X0_place_51, if_pos (show (6 : Int32) ≤ nI 6 by decide)]
  · obtain ⟨b, b1, b2⟩ := ahead_c (t := t) (m := m) ho h67 hu hv hy
    rw [f_X0_place_51, if_neg (show ¬ (6 : Int32) ≤ nI u from nI_ge (b := 6) hu (by omega)), b1, Option.bind_some, b_c, b2, nI_1, Int32.add_assoc]
    exact ih
end PL
/-! the model's places -/
def t_ms (t : gT) (m v k : Nat) : Int32 := b_set (fun u => t_A t m k u v) 6
theorem tb_ms {t : gT} {m v k u : Nat} (hu : u < 6) : tb (t_ms t m v k) u = t_A t m k u v := by
  unfold t_ms
  rw [tb_set (by omega), decide_eq_true hu]
  rfl
theorem val_m {I : gI} {m k u v : Nat} (h32 : I 87 32 = nI m) (hm : m ≤ 24) (h6 : ∀ k, k < m → q_mo I k) (hu : u < 6) (hA : t_A (tt I) m k u v = true) : ∃ I', f_X10_valueOf_ (nI u) (I 114 k) (t_ms (tt I) m v k) I = some (t_Y (tt I) m k u, I') ∧ sB I I' := by
  unfold f_X10_valueOf_ t_Y t_K
  rw [show (tt I).2.2.2 k = I 114 k from rfl]
  by_cases w0 : I 114 k = 0
  · obtain ⟨I1, a1, a2⟩ := tab_63 (v := u) h32 hm h6 hu
    rw [if_pos w0, if_pos w0, a1]
    exact ⟨I1, rfl, a2⟩
  by_cases w1 : I 114 k = 1
  · obtain ⟨I1, a1, a2⟩ := sum_63 (w := 1) (v := u) h32 hm h6 (by omega) hu
    rw [if_neg w0, if_neg w0, if_pos w1, if_pos w1, show (1 : Int32) = nI 1 from rfl, a1]
    exact ⟨I1, rfl, a2⟩
  by_cases w2 : I 114 k = 2
  · obtain ⟨I1, a1, a2⟩ := sum_63 (w := 4) (v := u) h32 hm h6 (by omega) hu
    obtain ⟨I2, b1, b2⟩ := sum_63 (I := I1) (m := m) (w := 5) (v := u) (by rw [a2 87 32 (by omega)]; exact h32) hm (mo_sB h6 a2) (by omega) hu
    rw [tt_sB a2] at b1
    rw [if_neg w0, if_neg w0, if_neg w1, if_neg w1, if_pos w2, if_pos w2, show (4 : Int32) = nI 4 from rfl, a1, Option.bind_some, show (5 : Int32) = nI 5 from rfl, b1]
    exact ⟨I2, rfl, a2.tr b2⟩
  by_cases w3 : I 114 k = 3
  · obtain ⟨I1, a1, a2⟩ := sum_63 (w := 4) (v := u) h32 hm h6 (by omega) hu
    rw [if_neg w0, if_neg w0, if_neg w1, if_neg w1, if_neg w2, if_neg w2, if_pos w3, if_pos w3, show (4 : Int32) = nI 4 from rfl, a1]
    exact ⟨I1, rfl, a2⟩
  · obtain ⟨I1, a1, a2⟩ := tab_m (v := u) (t_ms (tt I) m v k) h32 hm h6 hu
    rw [if_neg w0, if_neg w0, if_neg w1, if_neg w1, if_neg w2, if_neg w2, if_neg w3, if_neg w3, a1]
    refine ⟨I1, ?_, a2⟩
    rw [Option.bind_some]
    congr 2
    rw [s_sum_lin]
    unfold t_M
    refine s_sum_cg fun i hi => ?_
    obtain ⟨-, l1, -, l2⟩ := hv_ok (h6 i hi)
    unfold t_D
    by_cases c : t_in (tt I) i u = true
    · have c' := of_decide_eq_true c
      have lo : t_ot (tt I) i u < 6 := by
        unfold t_ot
        split <;> omega
      rw [tb_ms lo]
      have hiff : t_A (tt I) m k (t_ot (tt I) i u) v = true ↔ t_A (tt I) m k ((tt I).1 i) ((tt I).2.1 i) = true := by
        unfold t_ot
        by_cases q : (tt I).1 i = u
        · rw [if_pos q, q]
          constructor
          · intro z
            rw [t_A_y]
            exact t_A_t _ _ _ _ z (by rw [t_A_y]; exact hA)
          · intro z
            rw [t_A_y] at z
            exact t_A_t _ _ _ _ z hA
        · have q2 : (tt I).2.1 i = u := by omega
          rw [if_neg q, q2]
          constructor
          · intro z
            exact t_A_t _ _ _ _ z (by rw [t_A_y]; exact hA)
          · intro z
            exact t_A_t _ _ _ _ z hA
      by_cases d : t_A (tt I) m k ((tt I).1 i) ((tt I).2.1 i) = true
      · rw [if_pos ⟨c, hiff.mpr d⟩, if_pos ⟨c, hiff.mpr d⟩, if_pos ⟨c, d⟩]
      · rw [if_neg (fun q => d (hiff.mp q.2)), if_neg (fun q => d (hiff.mp q.2)), if_neg (fun q => d q.2)]
        rfl
    · rw [if_neg (fun q => c q.1), if_neg (fun q => c q.1), if_neg (fun q => c q.1)]
      rfl
theorem ah_in {I : gI} {m k v : Nat} (n : Int32) (k8 : Int32 → Int32 → Int32 → Int32 → gI → Option (Int32 × gI)) (h32 : I 87 32 = nI m) (hm : m ≤ 24) (h6 : ∀ k, k < m → q_mo I k) (hk : k < 5) : ∃ I', f_X10_aheadOf_38 k8 g_fuel (nI v) (t_ms (tt I) m v k) n (nI k) (t_Y (tt I) m k v) 0 0 I = k8 (nI v) (t_ms (tt I) m v (k + 1)) (n + s_sum (t_E (tt I) m v k) 6) (nI k + 1) I' ∧ sB I I' := by
  have key := lpg (P := fun fu u => ∀ I1, sB I I1 → ∃ I', f_X10_aheadOf_38 k8 fu (nI v) (t_ms (tt I) m v k) (n + s_sum (t_E (tt I) m v k) u) (nI k) (t_Y (tt I) m k v) (b_set (fun u => t_A (tt I) m (k + 1) u v) u) (nI u) I1 = k8 (nI v) (t_ms (tt I) m v (k + 1)) (n + s_sum (t_E (tt I) m v k) 6) (nI k + 1) I' ∧ sB I I') (n := 6) (by omega) (fun fu I1 s1 => ?_) (fun fu u hu ih I1 s1 => ?_) 0 (by omega)
  · have := key I sB.rfl
    rw [show n + s_sum (t_E (tt I) m v k) 0 = n from Int32.add_zero n] at this
    exact this
  · refine ⟨I1, ?_, s1⟩
    rw [f_X10_aheadOf_38, if_pos (show (6 : Int32) ≤ nI 6 by decide)]
    rfl
  · rw [f_X10_aheadOf_38, if_neg (show ¬ (6 : Int32) ≤ nI u from nI_ge (b := 6) hu (by omega))]
    unfold f_X10_aheadOf_84 f_X10_aheadOf_103 f_X10_aheadOf_112
    by_cases c : t_A (tt I) m k u v = true
    · rw [if_pos ((tb_t1 _ (by omega)).mpr (by rw [tb_ms hu]; exact c)), gin_nI hk (by omega), if_pos rfl, nI_clamp (by omega)]
      obtain ⟨I2, a1, a2⟩ := val_m (I := I1) (m := m) (k := k) (u := u) (v := v) (by rw [s1 87 32 (by omega)]; exact h32) hm (mo_sB h6 s1) hu (by rw [tt_sB s1]; exact c)
      rw [tt_sB s1] at a1
      rw [a1, Option.bind_some]
      try dsimp only
      rw [b_m, bs_m _ (show u < 32 by omega), nI_1]
      have ih2 := ih I2 (s1.tr a2)
      rw [s_sum_s, ← Int32.add_assoc] at ih2
      have e1 : t_E (tt I) m v k u = if (if t_Y (tt I) m k u ≤ t_Y (tt I) m k v then false else true) = true then 1 else 0 := by
        unfold t_E
        by_cases q : t_Y (tt I) m k u ≤ t_Y (tt I) m k v
        · rw [if_neg (fun z => z.2 q), if_pos q]
          rfl
        · rw [if_pos ⟨c, q⟩, if_neg q]
          rfl
      have e2 : b_set (fun u => t_A (tt I) m (k + 1) u v) (u + 1) = b_set (fun u => t_A (tt I) m (k + 1) u v) u ||| (if (if t_Y (tt I) m k u = t_Y (tt I) m k v then true else false) = true then 1 <<< nI u else 0) := by
        show b_set (fun u => t_A (tt I) m (k + 1) u v) u ||| (if t_A (tt I) m (k + 1) u v = true then 1 <<< nI u else 0) = _
        rw [t_A_s, c, Bool.true_and]
        by_cases q : t_Y (tt I) m k u = t_Y (tt I) m k v
        · rw [decide_eq_true q, if_pos q]
        · rw [decide_eq_false q, if_neg q]
      rw [e1, e2] at ih2
      exact ih2
    · rw [if_neg (fun q => c (by rw [← tb_ms hu]; exact (tb_t1 _ (by omega)).mp q)), nI_1]
      have ih1 := ih I1 s1
      rw [s_sum_s, show t_E (tt I) m v k u = 0 from if_neg (fun q => c q.1), Int32.add_zero] at ih1
      have e2 : b_set (fun u => t_A (tt I) m (k + 1) u v) (u + 1) = b_set (fun u => t_A (tt I) m (k + 1) u v) u := by
        show b_set (fun u => t_A (tt I) m (k + 1) u v) u ||| (if t_A (tt I) m (k + 1) u v = true then 1 <<< nI u else 0) = _
        rw [t_A_s, show t_A (tt I) m k u v = false by simpa using c, Bool.false_and]
        simp
      rw [e2] at ih1
      exact ih1
theorem ah_m {I : gI} {m o v : Nat} (h32 : I 87 32 = nI m) (hm : m ≤ 24) (h6 : ∀ k, k < m → q_mo I k) (ho : o ≤ 5) (h43 : I 87 43 = nI o) (hv : v < 6) : ∃ I', f_X10_aheadOf (nI v) I = some (s_sum (t_C (tt I) m v o) 6, I') ∧ sB I I' := by
  have key := lpg (P := fun fu k => ∀ I1, sB I I1 → ∃ I', f_X10_aheadOf_8 fu (nI v) (t_ms (tt I) m v k) (s_sum (t_C (tt I) m v k) 6) (nI k) I1 = some (s_sum (t_C (tt I) m v o) 6, I') ∧ sB I I') (n := o) (by omega) (fun fu I1 s1 => ?_) (fun fu k hk ih I1 s1 => ?_) 0 (by omega)
  · have e1 : t_ms (tt I) m v 0 = 63 := by
      show b_set (fun _ => true) 6 = 63
      decide
    have e2 : s_sum (t_C (tt I) m v 0) 6 = 0 := s_sum_z fun _ _ => rfl
    have := key I sB.rfl
    rw [e1, e2] at this
    exact this
  · refine ⟨I1, ?_, s1⟩
    rw [f_X10_aheadOf_8, s1 87 43 (by omega), h43, if_pos (nI_le (Nat.le_refl _) (by omega))]
  · have h32' : I1 87 32 = nI m := by rw [s1 87 32 (by omega)]; exact h32
    obtain ⟨I2, a1, a2⟩ := val_m (I := I1) (m := m) (k := k) (u := v) (v := v) h32' hm (mo_sB h6 s1) hv (t_A_r _ _)
    have s2 := s1.tr a2
    obtain ⟨I3, b1, b2⟩ := ah_in (I := I2) (m := m) (k := k) (v := v) (s_sum (t_C (tt I) m v k) 6) (fun x1 x2 x3 x4 I => f_X10_aheadOf_8 fu x1 x2 x3 x4 I) (by rw [s2 87 32 (by omega)]; exact h32) hm (mo_sB h6 s2) (by omega)
    rw [tt_sB s1] at a1
    rw [tt_sB s2, s_sum_add] at b1
    rw [f_X10_aheadOf_8, s1 87 43 (by omega), h43, if_neg (nI_ge hk (by omega)), gin_nI (show k < 5 by omega) (by omega), if_pos rfl, nI_clamp (by omega), a1, Option.bind_some]
    try dsimp only
    rw [b1, nI_1]
    exact ih I3 (s2.tr b2)
theorem q_match.rd {m : Nat} {I I1 : gI} (h : q_match m I) (s : sA m I I1) (hs : ∀ k, k < m → st_ok I I1 k) : rd m I I1 ∧ t_ok m (tt I) := by
  obtain ⟨hm, g1, g2, h6⟩ := h
  refine ⟨⟨by rw [s 65 1 (by omega)]; exact g1, fun k hk => ?_⟩, fun k hk => ?_⟩
  · obtain ⟨e1, l1, e2, l2⟩ := hv_ok (h6 k hk).mo
    refine ⟨?_, ?_, hs k hk⟩
    · rw [s _ _ (by omega), (h6 k hk).1.1]
      exact e1
    · rw [s _ _ (by omega), (h6 k hk).2.1.1]
      exact e2
  · obtain ⟨e1, l1, e2, l2⟩ := hv_ok (h6 k hk).mo
    refine ⟨l1, l2, fun q => (h6 k hk).2.2.1 ?_⟩
    rw [e1, e2, q]
theorem o_standing : op_standing Inv := by
  intro m I J v w h
  obtain ⟨-, -, -, -, ⟨o, ho1, ho, o1, o2, o3⟩, hM, -⟩ := id h
  obtain ⟨hm, g1, g2, h6⟩ := id hM
  have e0 : (0 : Int32).toInt = 0 := by decide
  have e7 : (7 : Int32).toInt = 7 := by decide
  have f0 : (0 : Int64).toInt = 0 := by decide
  have f7 : (7 : Int64).toInt = 7 := by decide
  unfold f_X9_standing f_X10_standing
  rw [vil_c, w_in, e0, e7]
  simp only [vil_m, m_in, Int32.toInt_toInt64, f0, f7]
  by_cases c1 : 0 ≤ v.toInt ∧ v.toInt ≤ 5
  · rw [decide_eq_true c1]
    simp only [if_true]
    by_cases c2 : 0 ≤ w.toInt ∧ w.toInt ≤ 7
    · rw [decide_eq_true c2]
      simp only [if_true]
      obtain ⟨v, hv, rfl⟩ := nI_lt_of (x := v) (n := 6) c1.1 (by omega)
      obtain ⟨w, hw, rfl⟩ := nI_lt_of (x := w) (n := 8) c2.1 (by omega)
      obtain ⟨I1, a1, a2, a3⟩ := all_st h
      obtain ⟨hr, ht⟩ := hM.rd a2 a3
      obtain ⟨I2, b1, b2, b3⟩ := sum_c hm hr ht
      have s2 : sm m I I2 := a2.sm.tr fun a k q => b2 a k (fun e => q (by unfold scr; omega))
      rw [a1, Option.bind_some, b1, Option.bind_some]
      have mo2 : ∀ {I3 : gI}, sm m I I3 → ∀ k, k < m → q_mo I3 k := fun s k hk => ((h6 k hk).sm s).mo
      have n32 : ∀ {I3 : gI}, sm m I I3 → I3 87 32 = nI m := fun s => by rw [s 87 32 (by unfold scr; omega)]; exact g2
      by_cases w6 : w = 6
      · subst w6
        obtain ⟨I3, d1, d2⟩ := tab_63 (I := I2) (m := m) (v := v) (n32 s2) hm (mo2 s2) hv
        rw [tt_sm s2] at d1
        rw [if_pos (show nI 6 = 6 from rfl), table_c hv b3, Option.bind_some]
        refine ⟨_, (_, I3), rfl, ?_, rfl, h.sm (s2.tr d2.sm) sj.rfl⟩
        try dsimp only
        rw [if_pos (show (6 : Int32) ≤ nI 6 by decide), if_pos (show nI 6 = 6 from rfl), d1]
        rfl
      · by_cases w7 : w = 7
        · subst w7
          obtain ⟨I3, d1, d2, d3⟩ := keys_c (I := I) (I1 := I2) (o := o) (nI v) hm (hr.fr fun c j q => b2 c j (by omega)) ht ho (by rw [s2 67 1 (by unfold scr; omega)]; exact o1) (fun k hk => by rw [s2 68 k (by unfold scr; omega)]; exact (o3 k hk).1) b3
          have s3 : sm m I I3 := s2.tr fun a k q => d2 a k (fun e => q (by unfold scr; omega))
          obtain ⟨I4, k1, k2⟩ := ah_m (I := I3) (m := m) (o := o) (v := v) (n32 s3) hm (mo2 s3) ho (by rw [s3 87 43 (by unfold scr; omega)]; exact o2) hv
          rw [tt_sm s3] at k1
          rw [if_neg (show ¬ nI 7 = 6 by decide), if_pos (show nI 7 = 7 from rfl), d1, place_c (t := tt I) (m := m) ho (by rw [s3 67 1 (by unfold scr; omega)]; exact o1) hv d3, Option.bind_some]
          refine ⟨_, (_, I4), rfl, ?_, rfl, h.sm (s3.tr k2.sm) sj.rfl⟩
          try dsimp only
          rw [if_pos (show (6 : Int32) ≤ nI 7 by decide), if_neg (show ¬ nI 7 = 6 by decide), k1]
          rfl
        · have hw6 : w < 6 := by omega
          obtain ⟨I3, d1, d2⟩ := sum_63 (I := I2) (m := m) (w := w) (v := v) (n32 s2) hm (mo2 s2) hw6 hv
          rw [tt_sm s2] at d1
          rw [if_neg (show ¬ nI w = 6 from fun q => absurd ((nI_eq (b := 6) (by omega) (by omega)).mp q) (by omega)), if_neg (show ¬ nI w = 7 from fun q => absurd ((nI_eq (b := 7) (by omega) (by omega)).mp q) (by omega)), gin_nI hw6 (by omega), gin_nI hv (by omega), if_pos rfl, if_pos rfl, nI_clamp (by omega), nI_clamp (by omega), b3 w hw6 v hv]
          refine ⟨_, (_, I3), rfl, ?_, rfl, h.sm (s2.tr d2.sm) sj.rfl⟩
          try dsimp only
          rw [if_neg (show ¬ (6 : Int32) ≤ nI w from nI_ge (b := 6) hw6 (by omega)), d1]
          rfl
    · rw [decide_eq_false c2]
      exact ⟨_, (-1002, I), rfl, rfl, rfl, h⟩
  · rw [decide_eq_false c1]
    exact ⟨_, (-1001, I), rfl, rfl, rfl, h⟩
