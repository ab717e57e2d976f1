/-! sums; count -/
def s_sum (f : Nat → Int32) : Nat → Int32
  | 0 => 0
  | n + 1 => s_sum f n + f n
theorem s_sum_cg {f g : Nat → Int32} : ∀ {n : Nat}, (∀ k, k < n → f k = g k) → s_sum f n = s_sum g n := by
  intro n
  induction n with
  | zero => intro _; rfl
  | succ n ih =>
    intro h
    show s_sum f n + f n = s_sum g n + g n
    rw [ih (fun k hk => h k (by omega)), h n (by omega)]
theorem s_sum_s (f : Nat → Int32) (n : Nat) : s_sum f (n + 1) = s_sum f n + f n := rfl
def F_off (I : gI) (k : Nat) : Int32 := f_X9_asNumber (I (3 + 3 * k) 7)
def F_rng (I : gI) (s : Int32) (k : Nat) : Int32 := if I (3 + 3 * k) 0 = s ∧ I (3 + 3 * k) 7 = 0 ∧ f_X2_isRinger (3 + 3 * k) I = true then 1 else 0
def F_has (I : gI) (k : Nat) : Int32 := if sp_has I k = true then 1 else 0
def F_dis (I : gI) (k : Nat) : Int32 := if sp_dis I k = true then 1 else 0
section CNT
variable {I : gI} {n : Nat}
theorem cc_off (hc : q_clay I n) : f_X1_countOff I = some (s_sum (F_off I) n) := by
  obtain ⟨h1, h2, hn, h4⟩ := hc
  unfold f_X1_countOff
  refine lpg (P := fun fu k => f_X1_countOff_4 fu (s_sum (F_off I) k) (nI k) I = some (s_sum (F_off I) n)) (n := n) (by omega) (fun fu => ?_) (fun fu k hk ih => ?_) 0 (by omega)
  · rw [f_X1_countOff_4, h1, if_pos (nI_le (Nat.le_refl _) (by omega))]
  · rw [f_X1_countOff_4, h1, if_neg (nI_ge hk (by omega)), gin_nI (by omega) (by omega), if_pos rfl, nI_clamp (by omega), nI_1]
    exact ih
theorem cc_rng (hc : q_clay I n) (s : Int32) : f_X1_countRingers s I = some (s_sum (F_rng I s) n) := by
  obtain ⟨h1, h2, hn, h4⟩ := hc
  unfold f_X1_countRingers
  refine lpg (P := fun fu k => f_X1_countRingers_4 fu s (s_sum (F_rng I s) k) (nI k) I = some (s_sum (F_rng I s) n)) (n := n) (by omega) (fun fu => ?_) (fun fu k hk ih => ?_) 0 (by omega)
  · rw [f_X1_countRingers_4, h1, if_pos (nI_le (Nat.le_refl _) (by omega))]
  · rw [f_X1_countRingers_4, h1, if_neg (nI_ge hk (by omega)), gin_nI (by omega) (by omega), if_pos rfl, nI_clamp (by omega)]
    rw [s_sum_s] at ih
    simp only [f_X1_countRingers_50, f_X1_countRingers_51, b_c, nI_1]
    by_cases c1 : I (3 + 3 * k) 0 = s
    · by_cases c2 : I (3 + 3 * k) 7 = 0
      · by_cases c3 : f_X2_isRinger (3 + 3 * k) I = false
        · rw [if_pos c1, if_pos c2, if_pos c3]
          rw [show F_rng I s k = 0 from if_neg (fun q => by rw [c3] at q; exact absurd q.2.2 (by decide))] at ih
          exact ih
        · rw [if_pos c1, if_pos c2, if_neg c3]
          rw [show F_rng I s k = 1 from if_pos ⟨c1, c2, by simpa using c3⟩] at ih
          exact ih
      · rw [if_pos c1, if_neg c2]
        rw [show F_rng I s k = 0 from if_neg (fun q => c2 q.2.1)] at ih
        exact ih
    · rw [if_neg c1]
      rw [show F_rng I s k = 0 from if_neg (fun q => c1 q.1)] at ih
      exact ih
theorem mm_rng (hc : q_clay I n) (s : Int32) : f_X10_ringersOf s I = some (s_sum (F_rng I s) n) := by
  obtain ⟨h1, h2, hn, h4⟩ := hc
  unfold f_X10_ringersOf
  refine lpg (P := fun fu k => f_X10_ringersOf_4 fu s (s_sum (F_rng I s) k) (nI k) I = some (s_sum (F_rng I s) n)) (n := n) (by omega) (fun fu => ?_) (fun fu k hk ih => ?_) 0 (by omega)
  · rw [f_X10_ringersOf_4, h2, if_pos (nI_le (Nat.le_refl _) (by omega))]
  · have hq := h4 k hk
    rw [f_X10_ringersOf_4, h2, if_neg (nI_ge hk (by omega)), gin_nI (by omega) (by omega), if_pos rfl, nI_clamp (by omega), ← hq.1.2.2.2.2.2.2.2, ← hq.1.1, m_ring (by omega) hq]
    rw [s_sum_s] at ih
    simp only [f_X10_ringersOf_44, f_X10_ringersOf_45, b_m, nI_1, Option.bind_some, if_true]
    by_cases c2 : I (3 + 3 * k) 7 = 0
    · by_cases c3 : f_X2_isRinger (3 + 3 * k) I = false
      · rw [if_pos c2, if_pos c3]
        rw [show F_rng I s k = 0 from if_neg (fun q => by rw [c3] at q; exact absurd q.2.2 (by decide))] at ih
        exact ih
      · by_cases c1 : I (3 + 3 * k) 0 = s
        · rw [if_pos c2, if_neg c3, if_pos c1]
          rw [show F_rng I s k = 1 from if_pos ⟨c1, c2, by simpa using c3⟩] at ih
          exact ih
        · rw [if_pos c2, if_neg c3, if_neg c1]
          rw [show F_rng I s k = 0 from if_neg (fun q => c1 q.1)] at ih
          exact ih
    · rw [if_neg c2]
      rw [show F_rng I s k = 0 from if_neg (fun q => c2 q.2.1)] at ih
      exact ih
theorem cc_has (hc : q_clay I n) : f_X1_countMeasured I = some (s_sum (F_has I) n) := by
  obtain ⟨h1, h2, hn, h4⟩ := hc
  unfold f_X1_countMeasured
  refine lpg (P := fun fu k => f_X1_countMeasured_4 fu (s_sum (F_has I) k) (nI k) I = some (s_sum (F_has I) n)) (n := n) (by omega) (fun fu => ?_) (fun fu k hk ih => ?_) 0 (by omega)
  · rw [f_X1_countMeasured_4, h1, if_pos (nI_le (Nat.le_refl _) (by omega))]
  · rw [f_X1_countMeasured_4, h1, if_neg (nI_ge hk (by omega)), gin_nI (by omega) (by omega), if_pos rfl, nI_clamp (by omega), c_cnt (h4 k hk)]
    rw [s_sum_s] at ih
    simp only [f_X1_countMeasured_30, b_c, nI_1, Option.bind_some]
    by_cases c : sp_has I k = false
    · rw [if_pos (sp_n0.1.mpr c)]
      rw [show F_has I k = 0 from if_neg (by rw [c]; decide)] at ih
      exact ih
    · rw [if_neg (fun q => c (sp_n0.1.mp q))]
      rw [show F_has I k = 1 from if_pos (by simpa using c)] at ih
      exact ih
theorem cc_dis (hc : q_clay I n) : f_X1_countDisputed I = some (s_sum (F_dis I) n) := by
  obtain ⟨h1, h2, hn, h4⟩ := hc
  unfold f_X1_countDisputed
  refine lpg (P := fun fu k => f_X1_countDisputed_4 fu (s_sum (F_dis I) k) (nI k) I = some (s_sum (F_dis I) n)) (n := n) (by omega) (fun fu => ?_) (fun fu k hk ih => ?_) 0 (by omega)
  · rw [f_X1_countDisputed_4, h1, if_pos (nI_le (Nat.le_refl _) (by omega))]
  · rw [f_X1_countDisputed_4, h1, if_neg (nI_ge hk (by omega)), gin_nI (by omega) (by omega), if_pos rfl, nI_clamp (by omega), c_dis (h4 k hk)]
    simp only [b_c, nI_1, Option.bind_some]
    exact ih
theorem mm_cnt (hc : q_clay I n) (w : Int32) : f_X10_count w I = f_X10_count_10 1 w (s_sum (F_off I) n) (s_sum (F_has I) n) (s_sum (F_dis I) n) (nI n) I := by
  obtain ⟨h1, h2, hn, h4⟩ := hc
  unfold f_X10_count
  refine lpg (P := fun fu k => f_X10_count_10 fu w (s_sum (F_off I) k) (s_sum (F_has I) k) (s_sum (F_dis I) k) (nI k) I = f_X10_count_10 1 w (s_sum (F_off I) n) (s_sum (F_has I) n) (s_sum (F_dis I) n) (nI n) I) (n := n) (by omega) (fun fu => ?_) (fun fu k hk ih => ?_) 0 (by omega)
  · rw [f_X10_count_10, f_X10_count_10, h2, if_pos (nI_le (Nat.le_refl _) (by omega)), if_pos (nI_le (Nat.le_refl _) (by omega))]
  · rw [f_X10_count_10, h2, if_neg (nI_ge hk (by omega)), gin_nI (by omega) (by omega), if_pos rfl, nI_clamp (by omega), m_has (by omega), m_dis (by omega), ← (h4 k hk).1.2.2.2.2.2.2.2, b_x]
    simp only [b_m, nI_1, Option.bind_some]
    exact ih
end CNT
/-! all matches -/
def st_ok (I I' : gI) (k : Nat) : Prop := I' (117 + 2 * k) 9 = (M_res I k).1 ∧ I' (117 + 2 * k) 7 = (M_res I k).2.1 ∧ I' (117 + 2 * k) 8 = (M_res I k).2.2.1
def sA (m : Nat) (I I' : gI) : Prop := ∀ b j, ¬ (117 ≤ b ∧ b < 117 + 2 * m ∧ b % 2 = 1 ∧ 6 ≤ j) → I' b j = I b j
def sB (I I' : gI) : Prop := ∀ b j, ¬ (b = 87 ∧ 39 ≤ j ∧ j ≤ 41) → I' b j = I b j
theorem sA.sm {m : Nat} {I I' : gI} (h : sA m I I') : sm m I I' := fun a k q => h a k (fun e => q (by unfold scr; omega))
theorem sB.sm {m : Nat} {I I' : gI} (h : sB I I') : sm m I I' := fun a k q => h a k (fun e => q (by unfold scr; omega))
theorem sB.rfl {I : gI} : sB I I := fun _ _ _ => Eq.refl _
theorem sB.tr {I I' I'' : gI} (h : sB I I') (h2 : sB I' I'') : sB I I'' := fun a k q => (h2 a k q).trans (h a k q)
def F_op (I : gI) (k : Nat) : Int32 := if (M_res I k).1 = 0 then 1 else 0
theorem all_st {m : Nat} {I : gI} {J : gJ} (h : Inv m I J) : ∃ I', f_X9_settleAll m I = some I' ∧ sA m I I' ∧ ∀ k, k < m → st_ok I I' k := by
  obtain ⟨-, -, hr, -, -, ⟨hm, g1, g2, h6⟩, -⟩ := id h
  unfold f_X9_settleAll
  refine lpg (P := fun fu k => ∀ I1, sA m I I1 → (∀ j, j < k → st_ok I I1 j) → ∃ I2, f_X9_settleAll_2 m fu (nI k) I1 = some I2 ∧ sA m I I2 ∧ ∀ j, j < m → st_ok I I2 j) (n := m) (by omega) (fun fu I1 s1 s2 => ?_) (fun fu k hk ih I1 s1 s2 => ?_) 0 (by omega) I (fun _ _ _ => Eq.refl _) (fun j hj => absurd hj (by omega))
  · refine ⟨I1, ?_, s1, s2⟩
    rw [f_X9_settleAll_2, s1 65 1 (by omega), g1, if_pos (nI_le (Nat.le_refl _) (by omega))]
  · obtain ⟨I2, e1, e2, e3, e4, e5, -⟩ := settle_c (I := I1) (k := k) ((h6 k hk).sm s1.sm) (hr.sm s1.sm)
    rw [M_res_sm s1.sm] at e3 e4 e5
    rw [f_X9_settleAll_2, s1 65 1 (by omega), g1, if_neg (nI_ge hk (by omega)), gin_nI (by omega) (by omega), if_pos rfl, nI_clamp (by omega), if_pos hk, e1, Option.bind_some, nI_1]
    refine ih I2 (fun b j q => ?_) (fun j hj => ?_)
    · rw [e2 b j (fun e => q (by omega))]
      exact s1 b j q
    · by_cases ej : j = k
      · subst ej
        exact ⟨e3, e4, e5⟩
      · obtain ⟨f1, f2, f3⟩ := s2 j (by omega)
        exact ⟨by rw [e2 _ _ (by omega)]; exact f1, by rw [e2 _ _ (by omega)]; exact f2, by rw [e2 _ _ (by omega)]; exact f3⟩
theorem op_c {m : Nat} {I I' : gI} (h : I' 65 1 = nI m) (hm : m ≤ 24) (hs : ∀ k, k < m → st_ok I I' k) : f_X0_countOpen m I' = some (s_sum (F_op I) m) := by
  unfold f_X0_countOpen
  refine lpg (P := fun fu k => f_X0_countOpen_4 m fu (s_sum (F_op I) k) (nI k) I' = some (s_sum (F_op I) m)) (n := m) (by omega) (fun fu => ?_) (fun fu k hk ih => ?_) 0 (by omega)
  · rw [f_X0_countOpen_4, h, if_pos (nI_le (Nat.le_refl _) (by omega))]
  · rw [f_X0_countOpen_4, h, if_neg (nI_ge hk (by omega)), gin_nI (by omega) (by omega), if_pos rfl, nI_clamp (by omega), if_pos hk, (hs k hk).1]
    rw [s_sum_s] at ih
    simp only [f_X0_countOpen_30, b_c, nI_1]
    by_cases c : (M_res I k).1 = 0
    · rw [if_pos c]
      rw [show F_op I k = 1 from if_pos c] at ih
      exact ih
    · rw [if_neg c]
      rw [show F_op I k = 0 from if_neg c] at ih
      exact ih
theorem M_res_sB {I I' : gI} {k : Nat} (h : sB I I') : M_res I' k = M_res I k := M_res_sm (m := 0) h.sm
theorem op_m {m : Nat} {I : gI} (h : I 87 32 = nI m) (hm : m ≤ 24) (h6 : ∀ k, k < m → q_mo I k) : ∃ I', f_X10_openOnes I = some (s_sum (F_op I) m, I') ∧ sB I I' := by
  unfold f_X10_openOnes
  refine lpg (P := fun fu k => ∀ I1, sB I I1 → ∃ I2, f_X10_openOnes_4 fu (s_sum (F_op I) k) (nI k) I1 = some (s_sum (F_op I) m, I2) ∧ sB I I2) (n := m) (by omega) (fun fu I1 s1 => ?_) (fun fu k hk ih I1 s1 => ?_) 0 (by omega) I sB.rfl
  · refine ⟨I1, ?_, s1⟩
    rw [f_X10_openOnes_4, s1 87 32 (by omega), h, if_pos (nI_le (Nat.le_refl _) (by omega))]
  · obtain ⟨I2, e1, e2, -⟩ := state_m (I := I1) (k := k) (by omega) ((h6 k hk).cg fun a ha => s1 a k (by omega))
    rw [M_res_sB s1] at e1
    rw [f_X10_openOnes_4, s1 87 32 (by omega), h, if_neg (nI_ge hk (by omega)), e1]
    have ih' := ih I2 (s1.tr e2)
    rw [s_sum_s] at ih'
    simp only [f_X10_openOnes_26, b_m, nI_1, Option.bind_some]
    by_cases c : (M_res I k).1 = 0
    · rw [if_pos c]
      rw [show F_op I k = 1 from if_pos c] at ih'
      exact ih'
    · rw [if_neg c]
      rw [show F_op I k = 0 from if_neg c] at ih'
      exact ih'
theorem both_op {m : Nat} {I : gI} {J : gJ} (h : Inv m I J) : ∃ I1 I2, f_X9_openMatches m I = some (s_sum (F_op I) m, I1) ∧ sA m I I1 ∧ (∀ k, k < m → st_ok I I1 k) ∧ f_X10_openOnes I1 = some (s_sum (F_op I) m, I2) ∧ sB I1 I2 := by
  obtain ⟨-, -, hr, -, -, ⟨hm, g1, g2, h6⟩, -⟩ := id h
  obtain ⟨I1, e1, e2, e3⟩ := all_st h
  obtain ⟨I2, k1, k2⟩ := op_m (I := I1) (m := m) (by rw [e2 87 32 (by omega)]; exact g2) hm (fun k hk => ((h6 k hk).sm e2.sm).mo)
  refine ⟨I1, I2, ?_, e2, e3, ?_, k2⟩
  · unfold f_X9_openMatches
    rw [e1, Option.bind_some, op_c (by rw [e2 65 1 (by omega)]; exact g1) hm e3]
    rfl
  · rw [k1, s_sum_cg (f := F_op I1) (g := F_op I) (fun k _ => by unfold F_op; rw [M_res_sm e2.sm])]
theorem o_count : op_count Inv := by
  intro m I J w h
  obtain ⟨⟨n, hc⟩, ⟨t, -, t1, t2, -⟩, -, -, ⟨o, -, -, o1, o2, -⟩, ⟨hm, g1, g2, h6⟩, -⟩ := id h
  obtain ⟨h1, h2, hn, h4⟩ := id hc
  by_cases w5 : w = 5
  · subst w5
    obtain ⟨I1, I2, e1, e2, e3, e4, e5⟩ := both_op h
    refine ⟨(s_sum (F_op I) m, I1), (s_sum (F_op I) m, I2), ?_, ?_, rfl, h.sm (e2.sm.tr e5.sm) sj.rfl⟩
    · show (f_X9_openMatches m I).bind _ = _
      rw [e1]
      rfl
    · dsimp only
      rw [mm_cnt (hc.sm e2.sm), f_X10_count_10, e2 87 0 (by omega), h2, if_pos (nI_le (Nat.le_refl _) (by omega))]
      show (f_X10_openOnes I1).bind _ = _
      rw [e4]
      rfl
  · suffices hs : ∃ r, f_X9_count m w I = some (r, I) ∧ f_X10_count w I = some (r, I) by
      obtain ⟨r, e1, e2⟩ := hs
      exact ⟨(r, I), (r, I), e1, e2, rfl, h⟩
    rw [mm_cnt hc, f_X10_count_10, h2, if_pos (nI_le (Nat.le_refl _) (by omega))]
    unfold f_X9_count
    rw [cc_off hc, cc_rng hc, cc_rng hc, cc_has hc, cc_dis hc, mm_rng hc, mm_rng hc, h1, g1, g2, t1, t2, o1, o2]
    simp only [Option.bind_some]
    by_cases w0 : w = 0
    · subst w0; exact ⟨_, rfl, rfl⟩
    by_cases w1 : w = 1
    · subst w1; exact ⟨_, rfl, rfl⟩
    by_cases w2 : w = 2
    · subst w2; exact ⟨_, rfl, rfl⟩
    by_cases w3 : w = 3
    · subst w3; exact ⟨_, rfl, rfl⟩
    by_cases w4 : w = 4
    · subst w4; exact ⟨_, rfl, rfl⟩
    by_cases w6 : w = 6
    · subst w6; exact ⟨_, rfl, rfl⟩
    by_cases w7 : w = 7
    · subst w7; exact ⟨_, rfl, rfl⟩
    by_cases w8 : w = 8
    · subst w8; exact ⟨_, rfl, rfl⟩
    by_cases w9 : w = 9
    · subst w9; exact ⟨_, rfl, rfl⟩
    simp only [w0, w1, w2, w3, w4, w5, w6, w7, w8, w9, if_false]
    exact ⟨_, rfl, rfl⟩
