/-! sure -/
def dP (I : gI) (v n i : Nat) : Bool := !(cP I v n i && sp_dis I i)
theorem dis_c {I : gI} {n v : Nat} (hc : q_clay I n) (hr : q_rules I) (hv : v < 6) : f_X7_disputedCounts (42 + 2 * v) I = some (!ball (dP I v n) n) := by
  obtain ⟨h1, h2, hn, h4⟩ := id hc
  unfold f_X7_disputedCounts
  rw [cs_cnt hc hr hv, Option.bind_some]
  refine lpg (P := fun fu k => ball (dP I v n) k = true → f_X7_disputedCounts_9 fu (CT I v n) (nI k) I = some (!ball (dP I v n) n)) (n := n) (by omega) (fun fu a => ?_) (fun fu k hk ih a => ?_) 0 (by omega) rfl
  · rw [f_X7_disputedCounts_9, h1, if_pos (nI_le (Nat.le_refl _) (by omega)), a]
    rfl
  · rw [f_X7_disputedCounts_9, h1, if_neg (nI_ge hk (by omega)), gin_nI (by omega) (by omega), nI_clamp (by omega), c_dis (h4 k hk)]
    unfold f_X7_disputedCounts_42
    simp only [if_true, Option.bind_some, nI_1]
    have et : tb (CT I v n) k = cP I v n k := by
      unfold CT
      rw [tb_set (by omega), decide_eq_true hk]
      rfl
    have hb : ball (dP I v n) (k + 1) = dP I v n k := by
      show (ball (dP I v n) k && dP I v n k) = _
      rw [a, Bool.true_and]
    by_cases c : cP I v n k = false
    · rw [if_pos ((tb_t0 _ (by omega)).mpr (by rw [et]; exact c))]
      refine ih ?_
      rw [hb]
      unfold dP
      rw [c]
      rfl
    · have c' : cP I v n k = true := by simpa using c
      rw [if_neg (fun z => c (by rw [← et]; exact (tb_t0 _ (by omega)).mp z))]
      by_cases d : sp_dis I k = false
      · rw [if_pos d]
        refine ih ?_
        rw [hb]
        unfold dP
        rw [d, Bool.and_false]
        rfl
      · rw [if_neg d]
        have d' : sp_dis I k = true := by simpa using d
        congr 1
        symm
        rw [Bool.not_eq_true', ← Bool.not_eq_true, ball_iff]
        intro q
        have := q k hk
        unfold dP at this
        rw [c', d'] at this
        cases this
theorem dis_r {I : gI} {i : Nat} (h : q_iron I i) (hd : sp_dis I i = true) : f_X2_isRinger (3 + 3 * i) I = false := by
  apply h.2.2.2
  have h3 := h.2.2.1
  by_cases a0 : I 96 (3 * i + 0) = 0
  · by_cases a1 : I 96 (3 * i + 1) = 0
    · by_cases a2 : I 96 (3 * i + 2) = 0
      · exfalso
        unfold sp_dis sp_lo sp_hi lo1 hi1 at hd
        simp only [a0, a1, a2, if_true] at hd
        exact absurd hd (by decide)
      · rcases h3 2 (by omega) with ⟨-, q⟩ | ⟨q, -⟩
        · exact absurd q a2
        · exact ⟨2, by omega, q⟩
    · rcases h3 1 (by omega) with ⟨-, q⟩ | ⟨q, -⟩
      · exact absurd q a1
      · exact ⟨1, by omega, q⟩
  · rcases h3 0 (by omega) with ⟨-, q⟩ | ⟨q, -⟩
    · exact absurd q a0
    · exact ⟨0, by omega, q⟩
theorem dis_m {I : gI} {J : gJ} {n v : Nat} (w : Int32) (hc : q_clay I n) (hr : q_rules I) (hv : v < 6) : f_X10_sure_29 g_fuel (nI v) w 0 I J = if ball (dP I v n) n = true then f_X10_sure_29 1 (nI v) w (nI n) I J else some (-1003, I, J) := by
  obtain ⟨h1, h2, hn, h4⟩ := id hc
  refine lpg (P := fun fu k => ball (dP I v n) k = true → f_X10_sure_29 fu (nI v) w (nI k) I J = if ball (dP I v n) n = true then f_X10_sure_29 1 (nI v) w (nI n) I J else some (-1003, I, J)) (n := n) (by omega) (fun fu a => ?_) (fun fu k hk ih a => ?_) 0 (by omega) rfl
  · rw [if_pos a, f_X10_sure_29, f_X10_sure_29, h2, if_pos (nI_le (Nat.le_refl _) (by omega)), if_pos (nI_le (Nat.le_refl _) (by omega))]
  · rw [f_X10_sure_29, h2, if_neg (nI_ge hk (by omega)), m_dis (by omega), ms_cnt hc hr hv hk, m_ring (by omega) (h4 k hk)]
    unfold f_X10_sure_66
    simp only [Option.bind_some, nI_1]
    have hb : ball (dP I v n) (k + 1) = dP I v n k := by
      show (ball (dP I v n) k && dP I v n k) = _
      rw [a, Bool.true_and]
    by_cases d : sp_dis I k = false
    · rw [if_pos d]
      refine ih ?_
      rw [hb]
      unfold dP
      rw [d, Bool.and_false]
      rfl
    · rw [if_neg d]
      have d' : sp_dis I k = true := by simpa using d
      by_cases c : cP I v n k = false
      · rw [if_pos c]
        refine ih ?_
        rw [hb]
        unfold dP
        rw [c]
        rfl
      · have c' : cP I v n k = true := by simpa using c
        rw [if_neg c, dis_r (h4 k hk) d', if_neg (by decide), if_neg (by
          rw [ball_iff]
          intro q
          have := q k hk
          unfold dP at this
          rw [c', d'] at this
          cases this)]
theorem o_sure : op_sure Inv := by
  intro m I J v w h
  obtain ⟨⟨n, hc⟩, -, hr, -⟩ := id h
  have e0 : (0 : Int32).toInt = 0 := by decide
  have e2 : (2 : Int32).toInt = 2 := by decide
  have f0 : (0 : Int64).toInt = 0 := by decide
  have f2 : (2 : Int64).toInt = 2 := by decide
  have n0 : Int32.toNatClampNeg 0 = 0 := by decide
  have n1 : Int32.toNatClampNeg 1 = 1 := by decide
  by_cases c1 : 0 ≤ v.toInt ∧ v.toInt ≤ 5
  rotate_left
  · refine ⟨(-1001, I, J), (-1001, I, J), ?_, ?_, rfl, h⟩
    · unfold f_X9_sure
      rw [vil_c, decide_eq_false c1]
      rfl
    · show f_X10_sure v w I J = _
      unfold f_X10_sure
      rw [vil_m, decide_eq_false c1]
      rfl
  have vm : f_X10_isVillage v = true := by rw [vil_m]; exact decide_eq_true c1
  have vc : f_X9_isVillage v = true := by rw [vil_c]; exact decide_eq_true c1
  by_cases c2 : 0 ≤ w.toInt ∧ w.toInt ≤ 2
  rotate_left
  · refine ⟨(-1002, I, J), (-1002, I, J), ?_, ?_, rfl, h⟩
    · unfold f_X9_sure
      rw [vc, w_in, e0, e2, decide_eq_false c2]
      rfl
    · show f_X10_sure v w I J = _
      unfold f_X10_sure
      rw [vm, m_in, Int32.toInt_toInt64, f0, f2, decide_eq_false c2]
      rfl
  obtain ⟨v, hv, rfl⟩ := nI_lt_of (x := v) (n := 6) c1.1 (by omega)
  have hn := hc.2.2.1
  by_cases cd : ball (dP I v n) n = true
  rotate_left
  · refine ⟨(-1003, I, J), (-1003, I, J), ?_, ?_, rfl, h⟩
    · unfold f_X9_sure
      rw [vc, w_in, e0, e2, decide_eq_true c2, gin_nI hv (by omega), nI_clamp (by omega), dis_c hc hr hv, show ball (dP I v n) n = false by simpa using cd]
      rfl
    · show f_X10_sure (nI v) w I J = _
      unfold f_X10_sure
      rw [vm, m_in, Int32.toInt_toInt64, f0, f2, decide_eq_true c2, if_pos rfl, if_pos rfl, dis_m w hc hr hv, if_neg cd]
  obtain ⟨c, p, a, x, y, I1, J1, q1, q2, q3, q4, q5, q6, q7, q8, q9⟩ := sc_b (m := m) (J := J) 1 hc hr hv
  obtain ⟨c', p', a', x', y', I2, J2, r1, r2, r3, r4, r5, r6, r7, r8, r9⟩ := sc_b (m := m) (I := I1) (J := J1) 0 (hc.sm q2) (hr.sm q2) hv
  have s12 : sm m I I2 := q2.tr r2
  have hC : f_X9_sure (nI v) w I J = (if w = 0 then some (x - y, I2, J2) else if w = 1 then some (x' - y', I2, J2) else some (if x - y = x' - y' then 1 else 0, I2, J2)) := by
    unfold f_X9_sure f_X9_sure_144 f_X7_difference
    rw [vc, w_in, e0, e2, decide_eq_true c2, gin_nI hv (by omega), nI_clamp (by omega), dis_c hc hr hv, cd, q1]
    simp only [if_true, Option.bind_some, n0, n1, q7, q8, Bool.not_true, b_c, b_if]
    rw [r1]
    simp only [Option.bind_some, r7, r8]
  obtain ⟨J3, l1, l2, l3⟩ := lay_f (J := J2) (nI v) (best := 1) (by decide) (hc.sm s12)
  obtain ⟨I4, f1, f2', f3, f4, f5, f6, f7⟩ := q9 I2 J3 s12 (fun i hi => by
    have := l3 i hi
    rw [(rf_sm 1 s12 (show i < 12 by omega)).1, (rf_sm 1 s12 (show i < 12 by omega)).2] at this
    exact this)
  have s4 : sm m I I4 := s12.tr f2'
  have s14 : sm m I1 I4 := r2.tr f2'
  obtain ⟨J5, k1, k2, k3⟩ := lay_f (J := J3) (nI v) (best := 0) (by decide) (hc.sm s4)
  obtain ⟨I6, g1, g2, g3, g4, g5, g6, g7⟩ := r9 I4 J5 s14 (fun i hi => by
    have := k3 i hi
    rw [(rf_sm 0 s14 (show i < 12 by omega)).1, (rf_sm 0 s14 (show i < 12 by omega)).2] at this
    exact this)
  have s6 : sm m I I6 := s4.tr g2
  have b2 : ball (dP I2 v n) n = true := by
    rw [ball_cg (q := dP I v n) fun i hi => by
      unfold dP sp_dis sp_lo sp_hi lo1 hi1
      have e95 : ∀ k, I2 96 k = I 96 k := fun k => s12 _ _ (by unfold scr; omega)
      have e96 : ∀ k, I2 97 k = I 97 k := fun k => s12 _ _ (by unfold scr; omega)
      have e97 : ∀ k, I2 98 k = I 98 k := fun k => s12 _ _ (by unfold scr; omega)
      simp only [cP_sm s12 hn hi, e95, e96, e97]]
    exact cd
  have hM : f_X10_sure (nI v) w I2 J2 = (if w = 0 then some (x - y, I6, J5) else if w = 1 then some (x' - y', I6, J5) else some (if x - y = x' - y' then 1 else 0, I6, J5)) := by
    unfold f_X10_sure
    rw [vm, m_in, Int32.toInt_toInt64, f0, f2, decide_eq_true c2, if_pos rfl, if_pos rfl, dis_m w (hc.sm s12) (hr.sm s12) hv, if_pos b2, f_X10_sure_29, (hc.sm s12).2.1, if_pos (nI_le (Nat.le_refl _) (by omega)), l1, f_X10_scoreFor_2, (hc.sm s12).2.1, if_pos (nI_le (Nat.le_refl _) (by omega)), f1, Option.bind_some, n0, n1, f6, f7, Option.bind_some]
    try dsimp only
    rw [k1, f_X10_scoreFor_2, (hc.sm s4).2.1, if_pos (nI_le (Nat.le_refl _) (by omega)), g1, Option.bind_some, n0, n1, g6, g7, Option.bind_some]
    unfold f_X10_sure_116
    simp only [b_m, b_if]
  have fin : ∀ r : Int32, f_X9_sure (nI v) w I J = some (r, I2, J2) → f_X10_sure (nI v) w I2 J2 = some (r, I6, J5) → ∃ r1 r2 : Int32 × gI × gJ, f_X9_sure (nI v) w I J = some r1 ∧ f_X10_sure (nI v) w r1.2.1 r1.2.2 = some r2 ∧ r1.1 = r2.1 ∧ Inv m r2.2.1 r2.2.2 := fun r x y => ⟨_, _, x, y, rfl, h.sm s6 (((q3.tr r3).tr l2).tr k2)⟩
  by_cases w0 : w = 0
  · exact fin (x - y) (by rw [hC, if_pos w0]) (by rw [hM, if_pos w0])
  by_cases w1 : w = 1
  · exact fin (x' - y') (by rw [hC, if_neg w0, if_pos w1]) (by rw [hM, if_neg w0, if_pos w1])
  · exact fin (if x - y = x' - y' then 1 else 0) (by rw [hC, if_neg w0, if_neg w1]) (by rw [hM, if_neg w0, if_neg w1])
