/-! sums of a root and a whole number, held against each other -/
def sg (x : Int) : Int := if x < 0 then -1 else if x = 0 then 0 else 1
def cR (p q g : Int) : Int := if p - q - g * g < 0 then -1 else sg ((p - q - g * g) * (p - q - g * g) - 4 * g * g * q)
def cS (a p b q : Int) : Int := if q < p then -(cR b a (p - q)) else cR a b (q - p)
theorem sg_neg (x : Int) : sg (-x) = -(sg x) := by
  unfold sg
  by_cases h1 : x < 0
  · rw [if_pos h1, if_neg (by omega), if_neg (by omega)]
    rfl
  · by_cases h2 : x = 0
    · subst h2
      rfl
    · rw [if_neg h1, if_neg h2, if_pos (by omega)]
theorem sg_pos {x : Int} (h : 0 < x) : sg x = 1 := by
  unfold sg
  rw [if_neg (by omega), if_neg (by omega)]
theorem sg_lt {x : Int} (h : x < 0) : sg x = -1 := by
  unfold sg
  rw [if_pos h]
theorem sg_0 : sg 0 = 0 := rfl
theorem sg_mul {x y : Int} (h : 0 < y) : sg (x * y) = sg x := by
  rcases Int.lt_trichotomy x 0 with h1 | h1 | h1
  · rw [sg_lt h1, sg_lt (Int.mul_neg_of_neg_of_pos h1 h)]
  · subst h1
    rw [Int.zero_mul]
  · rw [sg_pos h1, sg_pos (Int.mul_pos h1 h)]
theorem sg_sq {x y : Int} (hx : 0 ≤ x) (hy : 0 ≤ y) : sg (x * x - y * y) = sg (x - y) := by
  by_cases h : 0 < x + y
  · rw [show x * x - y * y = (x - y) * (x + y) by grind, sg_mul h]
  · rw [show x = 0 by omega, show y = 0 by omega]
    rfl
theorem cS_anti (a p b q : Int) : cS a p b q = -(cS b q a p) := by
  unfold cS
  by_cases h1 : q < p
  · rw [if_pos h1, if_neg (by omega)]
  · by_cases h2 : p < q
    · rw [if_neg h1, if_pos h2, Int.neg_neg]
    · rw [if_neg h1, if_neg h2, show q = p by omega, Int.sub_self]
      unfold cR
      simp only [Int.mul_zero, Int.zero_mul, Int.sub_zero]
      rcases Int.lt_trichotomy a b with h | h | h
      · rw [if_pos (by omega), if_neg (by omega), sg_pos (Int.mul_pos (by omega) (by omega))]
      · subst h
        simp [sg]
      · rw [if_neg (by omega), if_pos (by omega), sg_pos (Int.mul_pos (by omega) (by omega))]
        rfl
theorem cS_sc (a p b q : Int) : cS (100 * a) (10 * p) (100 * b) (10 * q) = cS a p b q := by
  have e : ∀ p q g : Int, cR (100 * p) (100 * q) (10 * g) = cR p q g := by
    intro p q g
    unfold cR
    have e1 : 100 * p - 100 * q - 10 * g * (10 * g) = (p - q - g * g) * 100 := by grind
    have e2 : (p - q - g * g) * 100 * ((p - q - g * g) * 100) - 4 * (10 * g) * (10 * g) * (100 * q) = ((p - q - g * g) * (p - q - g * g) - 4 * g * g * q) * 10000 := by grind
    rw [e1, e2, sg_mul (by omega)]
    by_cases h : p - q - g * g < 0
    · rw [if_pos h, if_pos (by omega)]
    · rw [if_neg h, if_neg (by omega)]
  unfold cS
  rw [show 10 * p - 10 * q = 10 * (p - q) by omega, show 10 * q - 10 * p = 10 * (q - p) by omega, e, e]
  by_cases h : q < p
  · rw [if_pos h, if_pos (by omega)]
  · rw [if_neg h, if_neg (by omega)]
def cF (a t : Int) : Int := if t < 0 then 1 else sg (a - t * t)
theorem cS_sq {a p s q : Int} (ha : 0 ≤ a) (hs : 0 ≤ s) : cS a p (s * s) q = cF a (s + q - p) := by
  unfold cS cF
  by_cases h : q < p
  · rw [if_pos h]
    obtain ⟨g, hg⟩ : ∃ g, g = p - q := ⟨_, rfl⟩
    have hg0 : 0 < g := by omega
    rw [← hg, show s + q - p = s - g by omega]
    unfold cR
    by_cases c : s - g < 0
    · have hss : s * s ≤ g * g := Int.mul_le_mul (by omega) (by omega) hs (by omega)
      have hgg : 0 < g * g := Int.mul_pos hg0 hg0
      have : s * s < g * g := by
        have h1 : s * s ≤ s * g := Int.mul_le_mul_of_nonneg_left (by omega) hs
        have h2 : s * g < g * g := Int.mul_lt_mul_of_pos_right (by omega) hg0
        omega
      rw [if_pos c, if_pos (by omega)]
      rfl
    · rw [if_neg c]
      obtain ⟨u, hu⟩ : ∃ u, u = s - g := ⟨_, rfl⟩
      have hu0 : 0 ≤ u := by omega
      rw [← hu, show s = u + g by omega]
      have hug : 0 ≤ u * g := Int.mul_nonneg hu0 (by omega)
      have hgg : 0 < g * g := Int.mul_pos hg0 hg0
      have e1 : (u + g) * (u + g) - a - g * g = (u * u - a) + 2 * (u * g) := by grind
      rw [e1]
      by_cases d : (u * u - a) + 2 * (u * g) < 0
      · rw [if_pos d, sg_pos (by omega)]
        rfl
      · rw [if_neg d]
        have e2 : ((u * u - a) + 2 * (u * g)) * ((u * u - a) + 2 * (u * g)) - 4 * g * g * a = (u * u - a) * ((u * u - a) + 4 * (u * g) + 4 * (g * g)) := by grind
        rw [e2, sg_mul (by omega), ← sg_neg]
        congr 1
        omega
  · rw [if_neg h]
    obtain ⟨g, hg⟩ : ∃ g, g = q - p := ⟨_, rfl⟩
    have hg0 : 0 ≤ g := by omega
    rw [← hg, show s + q - p = s + g by omega, if_neg (by omega)]
    unfold cR
    have hsg : 0 ≤ g * s := Int.mul_nonneg hg0 hs
    have e1 : a - (s + g) * (s + g) = (a - s * s - g * g) - 2 * (g * s) := by grind
    rw [e1]
    by_cases d : a - s * s - g * g < 0
    · rw [if_pos d, sg_lt (by omega)]
    · rw [if_neg d]
      have e2 : 4 * g * g * (s * s) = (2 * (g * s)) * (2 * (g * s)) := by grind
      rw [e2, sg_sq (by omega) (by omega)]
theorem cS_r {a p s q : Int} (ha : 0 ≤ a) (hs : 0 ≤ s) : cS a p (s * s) (q - s) = cS a p 0 q := by
  have h0 := cS_sq (a := a) (p := p) (s := 0) (q := q) ha (by omega)
  rw [Int.mul_zero] at h0
  rw [cS_sq ha hs, h0]
  congr 1
  omega
theorem cS_l {a p s q : Int} (ha : 0 ≤ a) (hs : 0 ≤ s) : cS (s * s) (p - s) a q = cS 0 p a q := by
  rw [cS_anti, cS_r ha hs, ← cS_anti]
theorem i_mb {x y A B : Int} (hA : 0 ≤ A) (h1 : -A ≤ x) (h2 : x ≤ A) (h3 : -B ≤ y) (h4 : y ≤ B) : -(A * B) ≤ x * y ∧ x * y ≤ A * B := by
  have h5 : x.natAbs ≤ A.natAbs := by omega
  have h6 : y.natAbs ≤ B.natAbs := by omega
  have h7 := Nat.mul_le_mul h5 h6
  rw [← Int.natAbs_mul, ← Int.natAbs_mul] at h7
  have : (A * B).natAbs = A * B := Int.natAbs_of_nonneg (Int.mul_nonneg hA (by omega))
  omega
def cB (a p : Int64) : Prop := 0 ≤ a.toInt ∧ a.toInt ≤ 100000000 ∧ -1000000 ≤ p.toInt ∧ p.toInt ≤ 1000000
theorem cmp_J (x y : Int64) : (f_J13_compare_74951 x y).toInt = sg (x.toInt - y.toInt) := by
  unfold f_J13_compare_74951
  simp only [c_ge0, c_eq0]
  by_cases h1 : y.toInt ≤ x.toInt
  · rw [if_pos h1]
    by_cases h2 : x.toInt = y.toInt
    · rw [if_pos h2, h2, Int.sub_self]
      rfl
    · rw [if_neg h2, sg_pos (by omega)]
      rfl
  · rw [if_neg h1, sg_lt (by omega)]
    rfl
theorem rest_v {a b d : Int64} (ha : 0 ≤ a.toInt ∧ a.toInt ≤ 100000000) (hb : 0 ≤ b.toInt ∧ b.toInt ≤ 100000000) (hd : 0 ≤ d.toInt ∧ d.toInt ≤ 2000000) : (a - b - d * d).toInt = a.toInt - b.toInt - d.toInt * d.toInt ∧ (0 ≤ a.toInt - b.toInt - d.toInt * d.toInt → ((a - b - d * d) * (a - b - d * d)).toInt = (a.toInt - b.toInt - d.toInt * d.toInt) * (a.toInt - b.toInt - d.toInt * d.toInt) ∧ ((4 : Int64) * d * d * b).toInt = 4 * d.toInt * d.toInt * b.toInt) := by
  have hdd := i_mb (A := 2000000) (B := 2000000) (by omega) (show -2000000 ≤ d.toInt by omega) hd.2 (show -2000000 ≤ d.toInt by omega) hd.2
  have e1 : (d * d).toInt = d.toInt * d.toInt := l_mul (by omega) (by omega)
  have hdd0 : 0 ≤ d.toInt * d.toInt := Int.mul_nonneg hd.1 hd.1
  have e2 : (a - b - d * d).toInt = a.toInt - b.toInt - d.toInt * d.toInt := by
    rw [l_sub, l_sub (by omega) (by omega), e1]
    · rw [l_sub (by omega) (by omega), e1]; omega
    · rw [l_sub (by omega) (by omega), e1]; omega
  refine ⟨e2, fun h => ?_⟩
  have hr := i_mb (A := 100000000) (B := 100000000) (x := a.toInt - b.toInt - d.toInt * d.toInt) (y := a.toInt - b.toInt - d.toInt * d.toInt) (by omega) (by omega) (by omega) (by omega) (by omega)
  have e4 : (4 : Int64).toInt = 4 := by decide
  have e5 : ((4 : Int64) * d).toInt = 4 * d.toInt := by rw [l_mul, e4] <;> rw [e4] <;> omega
  have e6 : ((4 : Int64) * d * d).toInt = 4 * d.toInt * d.toInt := by
    rw [l_mul, e5] <;> rw [e5, Int.mul_assoc] <;> omega
  have hb2 := i_mb (A := 400000000) (B := 100000000) (x := 4 * d.toInt * d.toInt) (y := b.toInt) (by omega) (by rw [Int.mul_assoc]; omega) (by rw [Int.mul_assoc]; omega) (by omega) (by omega)
  constructor
  · rw [l_mul, e2] <;> rw [e2] <;> omega
  · rw [l_mul, e6] <;> rw [e6] <;> omega
theorem cmp_R {a b d : Int64} (ha : 0 ≤ a.toInt ∧ a.toInt ≤ 100000000) (hb : 0 ≤ b.toInt ∧ b.toInt ≤ 100000000) (hd : 0 ≤ d.toInt ∧ d.toInt ≤ 2000000) : (f_X9_compareRoots a b d).toInt = cR a.toInt b.toInt d.toInt := by
  obtain ⟨h1, h2⟩ := rest_v ha hb hd
  unfold f_X9_compareRoots cR
  have e0 : (0 : Int64).toInt = 0 := by decide
  simp only [c_ge0, e0, h1]
  by_cases c : a.toInt - b.toInt - d.toInt * d.toInt < 0
  · rw [if_neg (by omega), if_pos c]
    rfl
  · rw [if_pos (by omega), if_neg c, cmp_J, (h2 (by omega)).1, (h2 (by omega)).2]
theorem cR_b (a b d : Int) : -1 ≤ cR a b d ∧ cR a b d ≤ 1 := by
  unfold cR sg
  split
  · omega
  · split
    · omega
    · split <;> omega
theorem cmp_S {a p b q : Int64} (h1 : cB a p) (h2 : cB b q) : (f_X9_compareSums a p b q).toInt = cS a.toInt p.toInt b.toInt q.toInt := by
  obtain ⟨a1, a2, a3, a4⟩ := h1
  obtain ⟨b1, b2, b3, b4⟩ := h2
  unfold f_X9_compareSums cS
  simp only [c_lt0]
  have e1 : (p - q).toInt = p.toInt - q.toInt := l_sub (by omega) (by omega)
  have e2 : (q - p).toInt = q.toInt - p.toInt := l_sub (by omega) (by omega)
  by_cases c : q.toInt < p.toInt
  · rw [if_pos c, if_pos c]
    have := cmp_R (a := b) (b := a) (d := p - q) ⟨b1, b2⟩ ⟨a1, a2⟩ (by omega)
    rw [t_neg, this, e1]
    rw [this]
    have := cR_b b.toInt a.toInt (p - q).toInt
    omega
  · rw [if_neg c, if_neg c, cmp_R ⟨a1, a2⟩ ⟨b1, b2⟩ (by omega), e2]
theorem held_2 {a b d : Int64} (ha : 0 ≤ a.toInt ∧ a.toInt ≤ 100000000) (hb : 0 ≤ b.toInt ∧ b.toInt ≤ 100000000) (hd : 0 ≤ d.toInt ∧ d.toInt ≤ 2000000) : (f_X10_held2 a b d).toInt = -(cR b.toInt a.toInt d.toInt) := by
  obtain ⟨h1, h2⟩ := rest_v hb ha hd
  unfold f_X10_held2 cR
  have e0 : (0 : Int64).toInt = 0 := by decide
  simp only [c_ge0, c_le0, e0, h1]
  by_cases c : b.toInt - a.toInt - d.toInt * d.toInt < 0
  · rw [if_neg (by omega), if_pos c]
    rfl
  · rw [if_pos (by omega), if_neg c, (h2 (by omega)).1, (h2 (by omega)).2, ← sg_neg]
    unfold sg
    by_cases x1 : 4 * d.toInt * d.toInt * a.toInt ≤ (b.toInt - a.toInt - d.toInt * d.toInt) * (b.toInt - a.toInt - d.toInt * d.toInt)
    · rw [if_pos x1]
      by_cases x2 : (b.toInt - a.toInt - d.toInt * d.toInt) * (b.toInt - a.toInt - d.toInt * d.toInt) ≤ 4 * d.toInt * d.toInt * a.toInt
      · rw [if_pos x2, if_neg (by omega), if_pos (by omega)]
        rfl
      · rw [if_neg x2, if_pos (by omega)]
        rfl
    · rw [if_neg x1, if_neg (by omega), if_neg (by omega)]
      rfl
theorem held_S {a p b q : Int64} (h1 : cB a p) (h2 : cB b q) : (f_X10_held a p b q).toInt = cS a.toInt p.toInt b.toInt q.toInt := by
  obtain ⟨a1, a2, a3, a4⟩ := h1
  obtain ⟨b1, b2, b3, b4⟩ := h2
  unfold f_X10_held
  have e0 : (0 : Int64).toInt = 0 := by decide
  have z0 : (0 : Int32).toInt = 0 := by decide
  have e1 : (p - q).toInt = p.toInt - q.toInt := l_sub (by omega) (by omega)
  have e2 : ((0 : Int64) - (p - q)).toInt = q.toInt - p.toInt := by
    rw [l_sub, e1, e0]
    · omega
    · rw [e0, e1]; omega
    · rw [e0, e1]; omega
  simp only [c_ge0, e0, e1]
  by_cases c : 0 ≤ p.toInt - q.toInt
  · rw [if_pos c, held_2 ⟨a1, a2⟩ ⟨b1, b2⟩ (by omega), e1]
    by_cases c2 : q.toInt < p.toInt
    · unfold cS
      rw [if_pos c2]
    · have : q.toInt = p.toInt := by omega
      rw [cS_anti]
      unfold cS
      rw [if_neg (by omega), this, Int.sub_self]
  · rw [if_neg c]
    have hh := held_2 (a := b) (b := a) (d := (0 : Int64) - (p - q)) ⟨b1, b2⟩ ⟨a1, a2⟩ (by omega)
    have := cR_b a.toInt b.toInt ((0 : Int64) - (p - q)).toInt
    rw [t_sub (by rw [z0, hh]; omega) (by rw [z0, hh]; omega), z0, hh, e2]
    unfold cS
    rw [if_neg (by omega)]
    omega
