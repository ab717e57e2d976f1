/-! win: the common divisor, and the call -/
theorem l_rem {y4 y6 : Int64} {a b : Nat} (h4 : y4.toInt = a) (h6 : y6.toInt = b) (hb : 0 < b) : (y4 - y4 / y6 * y6).toInt = ((a % b : Nat) : Int) := by
  have ha : (a : Int) < 9223372036854775808 := by
    rw [← h4]
    have := Int64.toInt_lt y4
    omega
  have hle : a / b ≤ a := Nat.div_le_self a b
  have hd : (y4 / y6).toInt = ((a / b : Nat) : Int) := by
    rw [Int64.toInt_div, h4, h6, ← Int.ofNat_tdiv]
    generalize a / b = dd at hle ⊢
    rw [Int.bmod_eq_of_le (by omega) (by omega)]
  have hp : a / b * b + a % b = a := Nat.div_add_mod' a b
  have e : ((a / b : Nat) : Int) * (b : Int) = ((a / b * b : Nat) : Int) := (Int.natCast_mul _ _).symm
  obtain ⟨p, ep⟩ : ∃ p, p = a / b * b := ⟨_, rfl⟩
  rw [← ep] at hp e
  have hm : (y4 / y6 * y6).toInt = (p : Int) := by
    rw [l_mul (by rw [hd, h6, e]; omega) (by rw [hd, h6, e]; omega), hd, h6, e]
  rw [l_sub (by rw [h4, hm]; omega) (by rw [h4, hm]; omega), h4, hm]
  omega
theorem eu {k : Nat} : ∀ (a b x fu1 fu2 : Nat) (y4 y6 : Int64), y4.toInt = a → y6.toInt = b → b ≤ a → 0 < a → a * b < 2 ^ k → x + k < 100 → k < fu1 → k < fu2 → ∃ g, f_X10_gcd_6 fu1 y4 y6 = some g ∧ f_X9_commonDivisor_9 fu2 y4 y6 (nI x) = some g ∧ 0 < g.toInt := by
  have z0 : (0 : Int64).toInt = 0 := by decide
  induction k with
  | zero =>
    intro a b x fu1 fu2 y4 y6 h4 h6 hba ha hp hx hf1 hf2
    obtain ⟨fu1, rfl⟩ : ∃ f, fu1 = f + 1 := ⟨fu1 - 1, by omega⟩
    obtain ⟨fu2, rfl⟩ : ∃ f, fu2 = f + 1 := ⟨fu2 - 1, by omega⟩
    have hb0 : b = 0 := by
      rcases Nat.eq_zero_or_pos b with h | h
      · exact h
      · have := Nat.mul_pos ha h
        omega
    have hc : lg_cmp y6 (0 : Int64) = 0 := (c_eq0 _ _).mpr (by rw [h6, z0, hb0]; rfl)
    refine ⟨y4, ?_, ?_, by omega⟩
    · rw [f_X10_gcd_6, if_pos hc]
    · rw [f_X9_commonDivisor_9, if_neg (show ¬ (100 : Int32) ≤ nI x from nI_ge (b := 100) (by omega) (by omega)), if_pos hc]
  | succ k ih =>
    intro a b x fu1 fu2 y4 y6 h4 h6 hba ha hp hx hf1 hf2
    obtain ⟨fu1, rfl⟩ : ∃ f, fu1 = f + 1 := ⟨fu1 - 1, by omega⟩
    obtain ⟨fu2, rfl⟩ : ∃ f, fu2 = f + 1 := ⟨fu2 - 1, by omega⟩
    rw [f_X10_gcd_6, f_X9_commonDivisor_9, if_neg (show ¬ (100 : Int32) ≤ nI x from nI_ge (b := 100) (by omega) (by omega))]
    rcases Nat.eq_zero_or_pos b with hb0 | hb
    · have hc : lg_cmp y6 (0 : Int64) = 0 := (c_eq0 _ _).mpr (by rw [h6, z0, hb0]; rfl)
      rw [if_pos hc, if_pos hc]
      exact ⟨y4, rfl, rfl, by omega⟩
    · have hc : ¬ lg_cmp y6 (0 : Int64) = 0 := fun q => by
        have := (c_eq0 _ _).mp q
        rw [h6, z0] at this
        omega
      have hn : ¬ y6 = 0 := fun q => by
        rw [q, z0] at h6
        omega
      rw [if_neg hc, if_neg hc, if_pos hn, if_pos hn, nI_1]
      have hr : a % b < b := Nat.mod_lt _ hb
      refine ih b (a % b) (x + 1) fu1 fu2 y6 _ h6 (l_rem h4 h6 hb) (by omega) hb ?_ (by omega) (by omega) (by omega)
      have hq : 1 ≤ a / b := Nat.div_pos hba hb
      have hd : b * (a / b) + a % b = a := Nat.div_add_mod a b
      have h1 : b * 1 ≤ b * (a / b) := Nat.mul_le_mul_left b hq
      have h2 : 2 * (a % b) ≤ a := by omega
      have h3 : (2 * (a % b)) * b ≤ a * b := Nat.mul_le_mul_right b h2
      have h4 : b * (a % b) * 2 = (2 * (a % b)) * b := by
        rw [Nat.mul_comm b, Nat.mul_comm 2, Nat.mul_assoc, Nat.mul_assoc, Nat.mul_comm b 2]
      have h5 : 2 ^ (k + 1) = 2 ^ k * 2 := Nat.pow_succ 2 k
      omega
theorem al_v : ∀ n, n < 7 → (al n).toInt = ((60 ^ n : Nat) : Int) ∧ 0 < 60 ^ n ∧ 60 ^ n * 60 ^ n < 2 ^ 71 := by decide +kernel
theorem gcd_b {n : Nat} (hn : n < 7) {u : Int64} (hu : 0 ≤ u.toInt) : ∃ g, f_X10_gcd u (al n) = some g ∧ f_X9_commonDivisor u (al n) = some g ∧ 0 < g.toInt := by
  have z0 : (0 : Int64).toInt = 0 := by decide
  obtain ⟨a1, a2, a3⟩ := al_v n hn
  obtain ⟨a, ha⟩ : ∃ a : Nat, u.toInt = a := ⟨u.toInt.toNat, by omega⟩
  obtain ⟨b, hb⟩ : ∃ b : Nat, b = 60 ^ n := ⟨_, rfl⟩
  rw [← hb] at a1 a2 a3
  have hr : a % b < b := Nat.mod_lt _ a2
  have hc : ¬ lg_cmp (al n) (0 : Int64) = 0 := fun q => by
    have := (c_eq0 _ _).mp q
    rw [a1, z0] at this
    omega
  have hnz : ¬ al n = 0 := fun q => by
    rw [q, z0] at a1
    omega
  have hle : b * (a % b) ≤ b * b := Nat.mul_le_mul_left b (by omega)
  obtain ⟨g, g1, g2, g3⟩ := eu (k := 71) b (a % b) 1 999 999 (al n) (u - u / al n * al n) a1 (l_rem ha a1 a2) (by omega) a2 (by omega) (by omega) (by omega) (by omega)
  refine ⟨g, ?_, ?_, g3⟩
  · unfold f_X10_gcd
    rw [show g_fuel = 999 + 1 from rfl, f_X10_gcd_6, if_neg hc, if_pos hnz]
    exact g1
  · unfold f_X9_commonDivisor
    rw [show g_fuel = 999 + 1 from rfl, f_X9_commonDivisor_9, if_neg (by decide), if_neg hc, if_pos hnz]
    exact g2
theorem w_go_b {W : Nat → Int32} {c : Nat → Int64} {s a l : Nat} {B : Int} (hs : s < 2) (ha : a < 3) (hW : ∀ k, k < 30 → q_b (W k) 0 60) (hc : ∀ k, k < 19 → 0 ≤ (c k).toInt ∧ (c k).toInt ≤ B) (hB : B ≤ 3000000000000) : ∀ k, k ≤ 5 → 0 ≤ (w_go W c s a l k).toInt ∧ (w_go W c s a l k).toInt ≤ 60 * k * B := by
  intro k
  induction k with
  | zero =>
    intro _
    show 0 ≤ (0 : Int64).toInt ∧ (0 : Int64).toInt ≤ 60 * ((0 : Nat) : Int) * B
    rw [show (0 : Int64).toInt = 0 by decide]
    simp
  | succ k ih =>
    intro hk
    obtain ⟨i1, i2⟩ := ih (by omega)
    obtain ⟨w1, w2⟩ := hW (15 * s + 5 * a + k) (by omega)
    obtain ⟨c1, c2⟩ := hc (nx s l k) (nx_lt s l k)
    show 0 ≤ (w_go W c s a l k + Int32.toInt64 (W (15 * s + 5 * a + k)) * c (nx s l k)).toInt ∧ (w_go W c s a l k + Int32.toInt64 (W (15 * s + 5 * a + k)) * c (nx s l k)).toInt ≤ 60 * ((k + 1 : Nat) : Int) * B
    have p1 : 0 ≤ (W (15 * s + 5 * a + k)).toInt * (c (nx s l k)).toInt := Int.mul_nonneg w1 c1
    have p2 : (W (15 * s + 5 * a + k)).toInt * (c (nx s l k)).toInt ≤ 60 * B := Int.mul_le_mul w2 c2 c1 (by omega)
    have e1 : (Int32.toInt64 (W (15 * s + 5 * a + k)) * c (nx s l k)).toInt = (W (15 * s + 5 * a + k)).toInt * (c (nx s l k)).toInt := by
      rw [l_mul (by rw [Int32.toInt_toInt64]; omega) (by rw [Int32.toInt_toInt64]; omega), Int32.toInt_toInt64]
    have e2 : 60 * ((k + 1 : Nat) : Int) * B = 60 * (k : Int) * B + 60 * B := by
      rw [Int.natCast_add, Int.mul_add, Int.add_mul]
      rfl
    have b1 : 60 * (k : Int) * B ≤ 60 * 5 * 3000000000000 := Int.mul_le_mul (by omega) hB (by omega) (by omega)
    rw [e2, l_add (by rw [e1]; omega) (by rw [e1]; omega), e1]
    omega
theorem b_go_b {W : Nat → Int32} {c : Nat → Int64} {s l : Nat} {B : Int} (hs : s < 2) (hW : ∀ k, k < 30 → q_b (W k) 0 60) (hc : ∀ k, k < 19 → 0 ≤ (c k).toInt ∧ (c k).toInt ≤ B) (hB : B ≤ 3000000000000) : ∀ a, a < 3 → 0 ≤ (b_go W c s l a).1.toInt ∧ (b_go W c s l a).1.toInt ≤ 300 * B := by
  intro a
  induction a with
  | zero =>
    intro _
    have := w_go_b (a := 0) (l := l) hs (by omega) hW hc hB 5 (by omega)
    exact this
  | succ a ih =>
    intro ha
    have := w_go_b (a := a + 1) (l := l) hs (by omega) hW hc hB 5 (by omega)
    have e : b_go W c s l (a + 1) = if bt s (w_go W c s (a + 1) l 5) (b_go W c s l a).1 = true then (w_go W c s (a + 1) l 5, a + 1) else b_go W c s l a := rfl
    rw [e]
    split
    · exact this
    · exact ih (by omega)
theorem ch_b {W : Nat → Int32} {s n : Nat} {x : Int32} (hW : ∀ k, k < 30 → q_b (W k) 0 60) : ∀ j, j < 7 → ∀ l, 0 ≤ (ch W s n x j l).toInt ∧ (ch W s n x j l).toInt ≤ ((300 ^ j : Nat) : Int) := by
  intro j
  induction j with
  | zero =>
    intro _ l
    show 0 ≤ (c0 x l).toInt ∧ (c0 x l).toInt ≤ 1
    unfold c0
    split <;> decide
  | succ j ih =>
    intro hj l
    have hp : ∀ j, j < 6 → ((300 ^ j : Nat) : Int) ≤ 3000000000000 ∧ ((300 ^ (j + 1) : Nat) : Int) = 300 * ((300 ^ j : Nat) : Int) := by decide +kernel
    obtain ⟨p1, p2⟩ := hp j (by omega)
    rw [p2]
    exact b_go_b (Nat.mod_lt _ (by omega)) hW (fun k _ => ih (by omega) k) p1 2 (by omega)
theorem ld_of {x : Int32} (h : -9 ≤ x.toInt ∧ x.toInt ≤ 9) : ∃ l, l < 19 ∧ x = nI l - 9 := by
  have e9 : (9 : Int32).toInt = 9 := by decide
  have e : (x + 9).toInt = x.toInt + 9 := by rw [t_add (by omega) (by omega), e9]
  obtain ⟨l, hl, hx⟩ := nI_lt_of (x := x + 9) (n := 19) (by omega) (by omega)
  refine ⟨l, hl, ?_⟩
  rw [← hx, Int32.add_sub_cancel]
theorem il_c (x : Int32) : f_X3_isLead x = decide (-9 ≤ x.toInt ∧ x.toInt ≤ 9) := by
  unfold f_X3_isLead
  rw [w_in]
  rfl
theorem il_m (x : Int32) : f_X10_in (Int32.toInt64 x) ((-9) : Int64) (9 : Int64) = decide (-9 ≤ x.toInt ∧ x.toInt ≤ 9) := by
  rw [m_in, Int32.toInt_toInt64]
  rfl
theorem o_win : op_win Inv := by
  intro m I J n s lead need w h
  obtain ⟨-, -, -, h4, -⟩ := id h
  have e0 : (0 : Int32).toInt = 0 := by decide
  have e1 : (1 : Int32).toInt = 1 := by decide
  have e2 : (2 : Int32).toInt = 2 := by decide
  have e6 : (6 : Int32).toInt = 6 := by decide
  have f0 : (0 : Int64).toInt = 0 := by decide
  have f1 : (1 : Int64).toInt = 1 := by decide
  have f2 : (2 : Int64).toInt = 2 := by decide
  have f6 : (6 : Int64).toInt = 6 := by decide
  have f9 : (9 : Int64).toInt = 9 := by decide
  have fm9 : ((-9) : Int64).toInt = -9 := by decide
  have out : ∀ {x : Option (Int64 × gI × gJ)}, x = some (-1002, I, J) → f_X10_win n s lead need w I J = some (-1002, I, J) → ∃ r1 r2 : Int64 × gI × gJ, x = some r1 ∧ f_X10_win n s lead need w r1.2.1 r1.2.2 = some r2 ∧ r1.1 = r2.1 ∧ Inv m r2.2.1 r2.2.2 := fun hx hy => ⟨_, _, hx, hy, rfl, h⟩
  by_cases c1 : 0 ≤ n.toInt ∧ n.toInt ≤ 6
  rotate_left
  · refine out ?_ ?_
    · unfold f_X9_win
      rw [w_in, e0, e6, decide_eq_false c1, if_pos rfl]
    · unfold f_X10_win
      rw [m_in, Int32.toInt_toInt64, f0, f6, decide_eq_false c1, if_pos rfl]
  by_cases c2 : 0 ≤ s.toInt ∧ s.toInt ≤ 1
  rotate_left
  · refine out ?_ ?_
    · unfold f_X9_win
      simp only [w_in, e0, e6, e1, decide_eq_true c1, decide_eq_false c2, if_true, Bool.true_eq_false, if_false]
    · unfold f_X10_win
      simp only [m_in, Int32.toInt_toInt64, f0, f6, f1, decide_eq_true c1, decide_eq_false c2, if_true, Bool.true_eq_false, if_false]
  by_cases c3 : 0 ≤ w.toInt ∧ w.toInt ≤ 2
  rotate_left
  · refine out ?_ ?_
    · unfold f_X9_win
      simp only [w_in, e0, e6, e1, e2, decide_eq_true c1, decide_eq_true c2, decide_eq_false c3, Bool.true_eq_false, Bool.false_eq_true, if_false]
    · unfold f_X10_win
      simp only [m_in, Int32.toInt_toInt64, f9, fm9, f0, f6, f1, f2, decide_eq_true c1, decide_eq_true c2, decide_eq_false c3, Bool.true_eq_false, Bool.false_eq_true, if_false]
      split
      · rfl
      · split
        · rfl
        · rfl
  by_cases c4 : -9 ≤ lead.toInt ∧ lead.toInt ≤ 9
  rotate_left
  · refine out ?_ ?_
    · unfold f_X9_win
      simp only [il_c, w_in, e0, e6, e1, e2, decide_eq_true c1, decide_eq_true c2, decide_eq_true c3, decide_eq_false c4, Bool.true_eq_false, if_true, if_false]
    · unfold f_X10_win
      simp only [m_in, Int32.toInt_toInt64, f9, fm9, f0, f6, f1, f2, decide_eq_true c1, decide_eq_true c2, decide_eq_false c4, Bool.true_eq_false, if_true, if_false]
  by_cases c5 : -9 ≤ need.toInt ∧ need.toInt ≤ 9
  rotate_left
  · refine out ?_ ?_
    · unfold f_X9_win
      simp only [il_c, w_in, e0, e6, e1, e2, decide_eq_true c1, decide_eq_true c2, decide_eq_true c3, decide_eq_true c4, decide_eq_false c5, Bool.true_eq_false, Bool.false_eq_true, if_true, if_false]
    · unfold f_X10_win
      simp only [m_in, Int32.toInt_toInt64, f9, fm9, f0, f6, f1, f2, decide_eq_true c1, decide_eq_true c2, decide_eq_true c4, decide_eq_false c5, Bool.true_eq_false, if_true, if_false]
  obtain ⟨n, hn, rfl⟩ := nI_lt_of (x := n) (n := 7) c1.1 (by omega)
  obtain ⟨s, hs, rfl⟩ := nI_lt_of (x := s) (n := 2) c2.1 (by omega)
  obtain ⟨l, hl, rfl⟩ := ld_of c4
  obtain ⟨-, k2, k3, -⟩ := ld9 l hl
  obtain ⟨I1, J1, a0, a1, a2, a3, a4, a5⟩ := all_c (I := I) (J := J) (x := need) hs hn
  obtain ⟨I2, J2, b0, b1, b2, b3, b4, b5⟩ := all_m (I := I1) (J := J1) (x := need) w hs hn hl
  have hW : ∀ k, k < 30 → q_b (I 61 k) 0 60 := fun k hk => by rw [(h4 k hk).1]; exact (h4 k hk).2
  have hWW : ∀ k, k < 30 → I1 105 k = I 61 k := fun k hk => by rw [a1 105 k (by omega), (h4 k hk).1]
  have eu2 : J2 106 l = ch (I 61) s n need n l := by rw [b3 l hl, ch_cg hWW]
  have eu1 : J1 62 l = ch (I 61) s n need n l := a3 l hl
  obtain ⟨g, g1, g2, g3⟩ := gcd_b hn (ch_b (W := I 61) (s := s) (n := n) (x := need) hW n hn l).1
  have gn : ¬ g = 0 := fun q => by rw [q, f0] at g3; omega
  have gl : (if g < (1 : Int64) then (1 : Int64) else g) = g := if_neg (fun q => by rw [Int64.lt_iff_toInt_lt, f1] at q; omega)
  have hI : Inv m I2 J2 := h.sm (fun a k q => by
      unfold scr at q
      rw [b1 a k (by omega), a1 a k (by omega)]) (fun b hb k => by rw [b2 b k (by omega) (by omega), a2 b k (by omega) (by omega) (by omega)])
  have hC : f_X9_win (nI n) (nI s) (nI l - 9) need w I J = if w = 2 then (if nI n = 0 then some (-1, I1, J1) else some (Int32.toInt64 (I1 64 l), I1, J1)) else if w = 0 then some (ch (I 61) s n need n l / g, I1, J1) else some (al n / g, I1, J1) := by
    unfold f_X9_win f_X3_bestAct f_X3_chance
    simp only [il_c, w_in, e0, e6, e1, e2, decide_eq_true c1, decide_eq_true c2, decide_eq_true c3, decide_eq_true c4, decide_eq_true c5, Bool.true_eq_false, if_true, if_false, a0, Option.bind_some, k2, k3, eu1, a4, g2, gl, gn, not_false_eq_true]
  have hM : f_X10_win (nI n) (nI s) (nI l - 9) need w I1 J1 = if w = 0 then some (ch (I 61) s n need n l / g, I2, J2) else if w = 1 then some (al n / g, I2, J2) else some (Int32.toInt64 (I2 87 31), I2, J2) := by
    unfold f_X10_win
    simp only [m_in, Int32.toInt_toInt64, f9, fm9, f0, f6, f1, f2, decide_eq_true c1, decide_eq_true c2, decide_eq_true c3, decide_eq_true c4, decide_eq_true c5, Bool.true_eq_false, if_true, if_false]
    rw [b0, f_X10_win_120, if_pos (show nI 0 - 1 < 0 by decide)]
    simp only [k2, k3, eu2, g1, gn, not_false_eq_true, if_true, Option.bind_some]
  have fin : ∀ v : Int64, f_X9_win (nI n) (nI s) (nI l - 9) need w I J = some (v, I1, J1) → f_X10_win (nI n) (nI s) (nI l - 9) need w I1 J1 = some (v, I2, J2) → ∃ r1 r2 : Int64 × gI × gJ, f_X9_win (nI n) (nI s) (nI l - 9) need w I J = some r1 ∧ f_X10_win (nI n) (nI s) (nI l - 9) need w r1.2.1 r1.2.2 = some r2 ∧ r1.1 = r2.1 ∧ Inv m r2.2.1 r2.2.2 := fun v x y => ⟨_, _, x, y, rfl, hI⟩
  by_cases w0 : w = 0
  · exact fin (ch (I 61) s n need n l / g) (by rw [hC, if_neg (by rw [w0]; decide), if_pos w0]) (by rw [hM, if_pos w0])
  · by_cases w2 : w = 2
    · by_cases n0 : n = 0
      · refine fin (-1) (by rw [hC, if_pos w2, if_pos (by rw [n0]; rfl)]) ?_
        rw [hM, if_neg w0, if_neg (by rw [w2]; decide), b4 n0]
        rfl
      · refine fin (Int32.toInt64 (I1 64 l)) (by rw [hC, if_pos w2, if_neg (nI_ne0 (by omega) (by omega))]) ?_
        rw [hM, if_neg w0, if_neg (by rw [w2]; decide), b5 n0 rfl, a5 n0 l hl]
        rw [b_go_cg (W := I1 105) (W' := I 61) (Nat.mod_lt _ (by omega)) hWW (fun k _ => ch_cg hWW (n - 1) k) 2 (by omega)]
    · have w1 : w = 1 := by
        apply Int32.toInt_inj.mp
        have q0 : ¬ w.toInt = 0 := fun q => w0 (Int32.toInt_inj.mp (by rw [q, e0]))
        have q2 : ¬ w.toInt = 2 := fun q => w2 (Int32.toInt_inj.mp (by rw [q, e2]))
        omega
      exact fin (al n / g) (by rw [hC, if_neg w2, if_neg w0]) (by rw [hM, if_neg w0, if_pos w1])
