/-! act, feed -/
theorem wt_c (x : Int32) : f_X9_isWeight x = decide (0 ≤ x.toInt ∧ x.toInt ≤ 60) := by
  unfold f_X9_isWeight
  rw [w_in]
  rfl
theorem wt_m (x : Int32) : f_X10_isWeight x = decide (0 ≤ x.toInt ∧ x.toInt ≤ 60) := by
  unfold f_X10_isWeight
  rw [m_in, Int32.toInt_toInt64]
  rfl
theorem ixw : ∀ s, s < 2 → ∀ a, a < 3 → ∀ k, k < 5 → g_in (f_X3_firstWeight (nI s) (nI a) + nI k) 30 = true ∧ (f_X3_firstWeight (nI s) (nI a) + nI k).toNatClampNeg = 15 * s + 5 * a + k ∧ g_in (15 * nI s + 5 * nI a + nI k) 30 = true ∧ (15 * nI s + 5 * nI a + nI k).toNatClampNeg = 15 * s + 5 * a + k := by decide +kernel
theorem o_act : op_act Inv := by
  intro m I J a1 a2 v w x y z h
  obtain ⟨-, -, -, h4, -⟩ := id h
  have e0 : (0 : Int32).toInt = 0 := by decide
  have e1 : (1 : Int32).toInt = 1 := by decide
  have e2 : (2 : Int32).toInt = 2 := by decide
  have f0 : (0 : Int64).toInt = 0 := by decide
  have f1 : (1 : Int64).toInt = 1 := by decide
  have f2 : (2 : Int64).toInt = 2 := by decide
  have hC : f_X9_act a1 a2 v w x y z I = if (0 ≤ a1.toInt ∧ a1.toInt ≤ 1) ∧ (0 ≤ a2.toInt ∧ a2.toInt ≤ 2) ∧ (0 ≤ v.toInt ∧ v.toInt ≤ 60) ∧ (0 ≤ w.toInt ∧ w.toInt ≤ 60) ∧ (0 ≤ x.toInt ∧ x.toInt ≤ 60) ∧ (0 ≤ y.toInt ∧ y.toInt ≤ 60) ∧ (0 ≤ z.toInt ∧ z.toInt ≤ 60) ∧ v + w + x + y + z = 60 then some (1, g_u (g_u (g_u (g_u (g_u I 61 (15 * a1.toNatClampNeg + 5 * a2.toNatClampNeg) v) 61 (15 * a1.toNatClampNeg + 5 * a2.toNatClampNeg + 1) w) 61 (15 * a1.toNatClampNeg + 5 * a2.toNatClampNeg + 2) x) 61 (15 * a1.toNatClampNeg + 5 * a2.toNatClampNeg + 3) y) 61 (15 * a1.toNatClampNeg + 5 * a2.toNatClampNeg + 4) z) else some (-1002, I) := by
    unfold f_X9_act
    rw [w_in, w_in, wt_c, wt_c, wt_c, wt_c, wt_c, e0, e1, e2]
    by_cases c1 : 0 ≤ a1.toInt ∧ a1.toInt ≤ 1
    · by_cases c2 : 0 ≤ a2.toInt ∧ a2.toInt ≤ 2
      · obtain ⟨s, hs, rfl⟩ := nI_lt_of (x := a1) (n := 2) c1.1 (by omega)
        obtain ⟨a, ha, rfl⟩ := nI_lt_of (x := a2) (n := 3) c2.1 (by omega)
        have i0 := ixw s hs a ha 0 (by omega)
        have i1 := ixw s hs a ha 1 (by omega)
        have i2 := ixw s hs a ha 2 (by omega)
        have i3 := ixw s hs a ha 3 (by omega)
        have i4 := ixw s hs a ha 4 (by omega)
        rw [show nI 0 = 0 from rfl, Int32.add_zero] at i0
        have i0' := i0.1
        have i0'' := i0.2.1
        rw [nI_clamp (show s < 2 ^ 31 by omega), nI_clamp (show a < 2 ^ 31 by omega)]
        simp only [decide_eq_true c1, decide_eq_true c2, c1, c2, i0', i0'', show (1 : Int32) = nI 1 from rfl, show (2 : Int32) = nI 2 from rfl, show (3 : Int32) = nI 3 from rfl, show (4 : Int32) = nI 4 from rfl, i1.1, i1.2.1, i2.1, i2.2.1, i3.1, i3.2.1, i4.1, i4.2.1, if_true, if_false, Bool.true_eq_false, true_and]
        by_cases d1 : 0 ≤ v.toInt ∧ v.toInt ≤ 60 <;> by_cases d2 : 0 ≤ w.toInt ∧ w.toInt ≤ 60 <;> by_cases d3 : 0 ≤ x.toInt ∧ x.toInt ≤ 60 <;> by_cases d4 : 0 ≤ y.toInt ∧ y.toInt ≤ 60 <;> by_cases d5 : 0 ≤ z.toInt ∧ z.toInt ≤ 60 <;> by_cases d6 : v + w + x + y + z = 60 <;> simp [d1, d2, d3, d4, d5, d6]
      · simp [c1, c2]
    · simp [c1]
  have hM : ∀ I' : gI, f_X10_act a1 a2 v w x y z I' = if (0 ≤ a1.toInt ∧ a1.toInt ≤ 1) ∧ (0 ≤ a2.toInt ∧ a2.toInt ≤ 2) ∧ (0 ≤ v.toInt ∧ v.toInt ≤ 60) ∧ (0 ≤ w.toInt ∧ w.toInt ≤ 60) ∧ (0 ≤ x.toInt ∧ x.toInt ≤ 60) ∧ (0 ≤ y.toInt ∧ y.toInt ≤ 60) ∧ (0 ≤ z.toInt ∧ z.toInt ≤ 60) ∧ v + w + x + y + z = 60 then some (1, g_u (g_u (g_u (g_u (g_u I' 105 (15 * a1.toNatClampNeg + 5 * a2.toNatClampNeg) v) 105 (15 * a1.toNatClampNeg + 5 * a2.toNatClampNeg + 1) w) 105 (15 * a1.toNatClampNeg + 5 * a2.toNatClampNeg + 2) x) 105 (15 * a1.toNatClampNeg + 5 * a2.toNatClampNeg + 3) y) 105 (15 * a1.toNatClampNeg + 5 * a2.toNatClampNeg + 4) z) else some (-1002, I') := by
    intro I'
    unfold f_X10_act f_X10_act_43 f_X10_act_44
    rw [wt_m, wt_m, wt_m, wt_m, wt_m, m_in, m_in, Int32.toInt_toInt64, Int32.toInt_toInt64, f0, f1, f2]
    by_cases c1 : 0 ≤ a1.toInt ∧ a1.toInt ≤ 1
    · by_cases c2 : 0 ≤ a2.toInt ∧ a2.toInt ≤ 2
      · obtain ⟨s, hs, rfl⟩ := nI_lt_of (x := a1) (n := 2) c1.1 (by omega)
        obtain ⟨a, ha, rfl⟩ := nI_lt_of (x := a2) (n := 3) c2.1 (by omega)
        have i0 := ixw s hs a ha 0 (by omega)
        have i1 := ixw s hs a ha 1 (by omega)
        have i2 := ixw s hs a ha 2 (by omega)
        have i3 := ixw s hs a ha 3 (by omega)
        have i4 := ixw s hs a ha 4 (by omega)
        rw [show nI 0 = 0 from rfl, Int32.add_zero, Int32.add_zero] at i0
        have i0' := i0.2.2.1
        have i0'' := i0.2.2.2
        rw [nI_clamp (show s < 2 ^ 31 by omega), nI_clamp (show a < 2 ^ 31 by omega)]
        have hl : f_X10_layAct (nI s) (nI a) v w x y z I' = some (g_u (g_u (g_u (g_u (g_u I' 105 (15 * s + 5 * a) v) 105 (15 * s + 5 * a + 1) w) 105 (15 * s + 5 * a + 2) x) 105 (15 * s + 5 * a + 3) y) 105 (15 * s + 5 * a + 4) z) := by
          unfold f_X10_layAct
          simp only [i0', i0'', show (1 : Int32) = nI 1 from rfl, show (2 : Int32) = nI 2 from rfl, show (3 : Int32) = nI 3 from rfl, show (4 : Int32) = nI 4 from rfl, i1.2.2.1, i1.2.2.2, i2.2.2.1, i2.2.2.2, i3.2.2.1, i3.2.2.2, i4.2.2.1, i4.2.2.2, if_true]
          rfl
        simp only [decide_eq_true c1, decide_eq_true c2, c1, c2, hl, Option.bind_some, if_true, if_false, Bool.true_eq_false, true_and]
        by_cases d1 : 0 ≤ v.toInt ∧ v.toInt ≤ 60 <;> by_cases d2 : 0 ≤ w.toInt ∧ w.toInt ≤ 60 <;> by_cases d3 : 0 ≤ x.toInt ∧ x.toInt ≤ 60 <;> by_cases d4 : 0 ≤ y.toInt ∧ y.toInt ≤ 60 <;> by_cases d5 : 0 ≤ z.toInt ∧ z.toInt ≤ 60 <;> by_cases d6 : v + w + x + y + z = 60 <;> simp [d1, d2, d3, d4, d5, d6]
      · simp [c1, c2]
    · simp [c1]
  rw [hC]
  by_cases c : (0 ≤ a1.toInt ∧ a1.toInt ≤ 1) ∧ (0 ≤ a2.toInt ∧ a2.toInt ≤ 2) ∧ (0 ≤ v.toInt ∧ v.toInt ≤ 60) ∧ (0 ≤ w.toInt ∧ w.toInt ≤ 60) ∧ (0 ≤ x.toInt ∧ x.toInt ≤ 60) ∧ (0 ≤ y.toInt ∧ y.toInt ≤ 60) ∧ (0 ≤ z.toInt ∧ z.toInt ≤ 60) ∧ v + w + x + y + z = 60
  · rw [if_pos c]
    obtain ⟨p, ep⟩ : ∃ p, p = 15 * a1.toNatClampNeg + 5 * a2.toNatClampNeg := ⟨_, rfl⟩
    rw [← ep] at hM ⊢
    refine ⟨_, (1, g_u (g_u (g_u (g_u (g_u (g_u (g_u (g_u (g_u (g_u I 61 p v) 61 (p + 1) w) 61 (p + 2) x) 61 (p + 3) y) 61 (p + 4) z) 105 p v) 105 (p + 1) w) 105 (p + 2) x) 105 (p + 3) y) 105 (p + 4) z), rfl, ?_, rfl, ?_⟩
    · dsimp only
      rw [hM, if_pos c]
    · refine h.wts (fun k hk => ?_) (fun a k q1 q2 => ?_) sj.rfl
      · dsimp only
        by_cases k0 : k = p
        · subst k0
          simp (disch := omega) only [u_eq, u_na, u_nk]
          exact ⟨trivial, c.2.2.1⟩
        by_cases k1 : k = p + 1
        · subst k1
          simp (disch := omega) only [u_eq, u_na, u_nk]
          exact ⟨trivial, c.2.2.2.1⟩
        by_cases k2 : k = p + 2
        · subst k2
          simp (disch := omega) only [u_eq, u_na, u_nk]
          exact ⟨trivial, c.2.2.2.2.1⟩
        by_cases k3 : k = p + 3
        · subst k3
          simp (disch := omega) only [u_eq, u_na, u_nk]
          exact ⟨trivial, c.2.2.2.2.2.1⟩
        by_cases k4 : k = p + 4
        · subst k4
          simp (disch := omega) only [u_eq, u_na, u_nk]
          exact ⟨trivial, c.2.2.2.2.2.2.1⟩
        simp (disch := omega) only [u_eq, u_na, u_nk]
        exact h4 k hk
      · unfold R_wts at q1
        dsimp only
        simp (disch := omega) only [u_na]
  · rw [if_neg c]
    refine ⟨_, (-1002, I), rfl, ?_, rfl, h⟩
    dsimp only
    rw [hM, if_neg c]
/-- a byte of eight -/
def byt (y : Int64) (k : Nat) : Int32 := (Int64.toInt32 ((y.toUInt64 >>> ((Int32.toInt64 (8 * nI k)).toUInt64 &&& Int64.toUInt64 63)).toInt64)) &&& 255
theorem byt_b (x : Int32) : q_b (x &&& 255) 0 255 := by
  have h : (x &&& 255).toBitVec.toNat ≤ 255 := by
    rw [Int32.toBitVec_and, BitVec.toNat_and]
    exact Nat.le_trans Nat.and_le_right (by decide)
  have e : (x &&& 255).toInt = ((x &&& 255).toBitVec.toNat : Int) := by
    show (x &&& 255).toBitVec.toInt = _
    rw [BitVec.toInt_eq_toNat_of_lt (by omega)]
  unfold q_b
  omega
theorem b255 : ∀ i, i < 32 → (255#64).getLsbD i = decide (i < 8) ∧ (255#32).getLsbD i = decide (i < 8) := by decide +kernel
theorem byt_s : ∀ k, k < 8 → ((Int32.toInt64 (8 * nI k)) &&& 63).toBitVec.smod 64 = BitVec.ofNat 64 (8 * k) ∧ ((Int32.toInt64 (8 * nI k)).toUInt64 &&& Int64.toUInt64 63).toBitVec % 64 = BitVec.ofNat 64 (8 * k) := by decide +kernel
theorem byt_m (y : Int64) {k : Nat} (hk : k < 8) : Int64.toInt32 ((y >>> ((Int32.toInt64 (8 * nI k)) &&& 63)) &&& (255 : Int64)) = byt y k := by
  obtain ⟨s1, s2⟩ := byt_s k hk
  unfold byt
  apply Int32.toBitVec_inj.mp
  have e1 : (Int64.toInt32 ((y >>> ((Int32.toInt64 (8 * nI k)) &&& 63)) &&& (255 : Int64))).toBitVec = ((y.toBitVec.sshiftRight (((Int32.toInt64 (8 * nI k)) &&& 63).toBitVec.smod 64).toNat) &&& 255#64).signExtend 32 := rfl
  have e2 : ((Int64.toInt32 ((y.toUInt64 >>> ((Int32.toInt64 (8 * nI k)).toUInt64 &&& Int64.toUInt64 63)).toInt64)) &&& 255).toBitVec = (y.toBitVec >>> (((Int32.toInt64 (8 * nI k)).toUInt64 &&& Int64.toUInt64 63).toBitVec % 64).toNat).signExtend 32 &&& 255#32 := rfl
  have t : (BitVec.ofNat 64 (8 * k)).toNat = 8 * k := by
    rw [BitVec.toNat_ofNat]
    exact Nat.mod_eq_of_lt (by omega)
  rw [e1, e2, s1, s2, t]
  apply BitVec.eq_of_getLsbD_eq
  intro i hi
  rw [BitVec.getLsbD_signExtend, BitVec.getLsbD_and, BitVec.getLsbD_and, BitVec.getLsbD_signExtend, BitVec.getLsbD_sshiftRight, BitVec.getLsbD_ushiftRight, (b255 i hi).1, (b255 i hi).2]
  by_cases c : i < 8
  · simp [c, hi, show 8 * k + i < 64 by omega, show i < 64 by omega, show ¬ 64 ≤ i by omega]
  · simp [c, hi, show ¬ 64 ≤ i by omega]
def q_app (I I' : gI) (h1 k1 h2 t d : Nat) (y : Int64) : Prop := (∀ a k, ¬ (a = h1 ∧ k = k1) → ¬ (a = h2 ∧ t ≤ k) → I' a k = I a k) ∧ I' h1 k1 = nI (t + d) ∧ ∀ j, j < d → I' h2 (t + j) = byt y (d - 1 - j)
theorem feed_c (y : Int64) : ∀ (d fu t : Nat) (I : gI), d < fu → d ≤ 8 → t + d ≤ 100 → I 39 1 = nI t → ∃ I', f_X9_feed_37 fu y (nI d - 1) I = some (nI (t + d), I') ∧ q_app I I' 39 1 40 t d y := by
  intro d
  induction d with
  | zero =>
    intro fu t I h1 h2 h3 h4
    obtain ⟨fu, rfl⟩ : ∃ f, fu = f + 1 := ⟨fu - 1, by omega⟩
    refine ⟨I, ?_, fun _ _ _ _ => rfl, h4, fun j hj => absurd hj (by omega)⟩
    rw [f_X9_feed_37, if_pos (by decide), h4]
    rfl
  | succ d ih =>
    intro fu t I h1 h2 h3 h4
    obtain ⟨fu, rfl⟩ : ∃ f, fu = f + 1 := ⟨fu - 1, by omega⟩
    rw [f_X9_feed_37, nI_pred, if_neg (nI_pos (by omega))]
    have e : f_X8_add (byt y d) I = some (g_u (g_u I 40 t (byt y d)) 39 1 (nI (t + 1))) := by
      unfold f_X8_add
      rw [h4, if_neg (show ¬ (100 : Int32) ≤ nI t from nI_ge (b := 100) (by omega) (by omega)), gin_nI (by omega) (by omega), if_pos rfl, nI_clamp (by omega), u_na (by omega), h4, nI_1]
    obtain ⟨I', g1, g2, g3, g4⟩ := ih fu (t + 1) (g_u (g_u I 40 t (byt y d)) 39 1 (nI (t + 1))) (by omega) (by omega) (by omega) (u_eq rfl rfl)
    refine ⟨I', ?_, fun a k q1 q2 => ?_, ?_, fun j hj => ?_⟩
    · show (f_X8_add (byt y d) I).bind _ = _
      rw [e, Option.bind_some, ← Int32.sub_eq_add_neg, g1, show t + 1 + d = t + (d + 1) by omega]
    · rw [g2 a k q1 (by omega), u_ap, if_neg q1, u_ap, if_neg (by omega)]
    · rw [g3, show t + 1 + d = t + (d + 1) by omega]
    · by_cases j0 : j = 0
      · subst j0
        rw [g2 40 (t + 0) (by omega) (by omega), u_na (by omega), u_eq rfl (by omega)]
        rfl
      · have := g4 (j - 1) (by omega)
        rw [show t + 1 + (j - 1) = t + j by omega, show d - 1 - (j - 1) = d + 1 - 1 - j by omega] at this
        exact this
theorem feed_m (y : Int64) : ∀ (d fu t : Nat) (I : gI), d < fu → d ≤ 8 → t + d ≤ 100 → I 87 13 = nI t → ∃ I', f_X10_feed_36 fu y (nI d - 1) I = some (nI (t + d), I') ∧ q_app I I' 87 13 99 t d y := by
  intro d
  induction d with
  | zero =>
    intro fu t I h1 h2 h3 h4
    obtain ⟨fu, rfl⟩ : ∃ f, fu = f + 1 := ⟨fu - 1, by omega⟩
    refine ⟨I, ?_, fun _ _ _ _ => rfl, h4, fun j hj => absurd hj (by omega)⟩
    rw [f_X10_feed_36, if_pos (by decide), h4]
    rfl
  | succ d ih =>
    intro fu t I h1 h2 h3 h4
    obtain ⟨fu, rfl⟩ : ∃ f, fu = f + 1 := ⟨fu - 1, by omega⟩
    rw [f_X10_feed_36, nI_pred, if_neg (nI_pos (by omega)), byt_m y (show d < 8 by omega), h4, gin_nI (by omega) (by omega), if_pos rfl, nI_clamp (by omega), u_na (by omega), h4, nI_1, ← Int32.sub_eq_add_neg]
    obtain ⟨I', g1, g2, g3, g4⟩ := ih fu (t + 1) (g_u (g_u I 99 t (byt y d)) 87 13 (nI (t + 1))) (by omega) (by omega) (by omega) (u_eq rfl rfl)
    refine ⟨I', ?_, fun a k q1 q2 => ?_, ?_, fun j hj => ?_⟩
    · rw [g1, show t + 1 + d = t + (d + 1) by omega]
    · rw [g2 a k q1 (by omega), u_ap, if_neg q1, u_ap, if_neg (by omega)]
    · rw [g3, show t + 1 + d = t + (d + 1) by omega]
    · by_cases j0 : j = 0
      · subst j0
        rw [g2 99 (t + 0) (by omega) (by omega), u_na (by omega), u_eq rfl (by omega)]
        rfl
      · have := g4 (j - 1) (by omega)
        rw [show t + 1 + (j - 1) = t + j by omega, show d - 1 - (j - 1) = d + 1 - 1 - j by omega] at this
        exact this
theorem o_feed : op_feed Inv := by
  intro m I J n y h
  obtain ⟨-, ⟨t, ht, t1, t2, t3, t4⟩, -⟩ := id h
  have e1 : (1 : Int32).toInt = 1 := by decide
  have e8 : (8 : Int32).toInt = 8 := by decide
  have f1 : (1 : Int64).toInt = 1 := by decide
  have f8 : (8 : Int64).toInt = 8 := by decide
  have hM : ∀ I' : gI, f_X10_feed n y I' = if 1 ≤ n.toInt ∧ n.toInt ≤ 8 then (if I' 87 13 + n ≤ 100 then f_X10_feed_36 g_fuel y (n - 1) I' else some (-1004, I')) else some (-1002, I') := by
    intro I'
    unfold f_X10_feed
    rw [m_in, Int32.toInt_toInt64, f1, f8]
    by_cases c : 1 ≤ n.toInt ∧ n.toInt ≤ 8
    · simp [c]
    · simp [c]
  unfold f_X9_feed
  rw [w_in, e1, e8]
  by_cases c : 1 ≤ n.toInt ∧ n.toInt ≤ 8
  · rw [decide_eq_true c]
    obtain ⟨d, hd, rfl⟩ := nI_lt_of (x := n) (n := 9) (by omega) (by omega)
    simp only [if_true]
    rw [t1, nI_add]
    by_cases c2 : t + d ≤ 100
    · obtain ⟨I1, g1, g2, g3, g4⟩ := feed_c y d g_fuel t I (by unfold g_fuel; omega) (by omega) c2 t1
      have t2' : I1 87 13 = nI t := by rw [g2 87 13 (by omega) (by omega)]; exact t2
      obtain ⟨I2, k1, k2, k3, k4⟩ := feed_m y d g_fuel t I1 (by unfold g_fuel; omega) (by omega) c2 t2'
      rw [if_pos (show nI (t + d) ≤ 100 from nI_le (b := 100) c2 (by omega))]
      refine ⟨_, (nI (t + d), I2), g1, ?_, rfl, ?_⟩
      · show f_X10_feed (nI d) y I1 = _
        rw [hM, if_pos c, t2', nI_add, if_pos (show nI (t + d) ≤ 100 from nI_le (b := 100) c2 (by omega))]
        exact k1
      · show Inv m I2 J
        refine h.text ⟨t + d, c2, ?_, k3, ?_, fun k hk => ?_⟩ (fun a k q1 q2 => ?_) sj.rfl
        · rw [k2 39 1 (by omega) (by omega)]
          exact g3
        · rw [k2 39 4 (by omega) (by omega), g2 39 4 (by omega) (by omega), k2 87 16 (by omega) (by omega), g2 87 16 (by omega) (by omega)]
          exact t3
        · rw [k2 40 k (by omega) (by omega)]
          by_cases kt : k < t
          · rw [g2 40 k (by omega) (by omega), k2 99 k (by omega) (by omega), g2 99 k (by omega) (by omega)]
            exact t4 k kt
          · have a1 := g4 (k - t) (by omega)
            have a2 := k4 (k - t) (by omega)
            rw [show t + (k - t) = k by omega] at a1 a2
            rw [a1, a2]
            exact ⟨rfl, byt_b _⟩
        · unfold R_text at q1
          rw [k2 a k (by omega) (by omega), g2 a k (by omega) (by omega)]
    · rw [if_neg (show ¬ nI (t + d) ≤ 100 from nI_ge (a := 100) (by omega) (by omega))]
      refine ⟨_, (-1004, I), rfl, ?_, rfl, h⟩
      show f_X10_feed (nI d) y I = _
      rw [hM, if_pos c, t2, nI_add, if_neg (show ¬ nI (t + d) ≤ 100 from nI_ge (a := 100) (by omega) (by omega))]
  · rw [decide_eq_false c]
    refine ⟨_, (-1002, I), rfl, ?_, rfl, h⟩
    show f_X10_feed n y I = _
    rw [hM, if_neg c]
