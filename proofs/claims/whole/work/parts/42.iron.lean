/-! one iron, of both -/
theorem lp {P : Nat → Nat → Prop} {n : Nat} (hb : ∀ fu, P (fu + 1) n) (hs : ∀ fu k, k < n → P fu (k + 1) → P (fu + 1) k) : ∀ (d k fu : Nat), n - k = d → k ≤ n → d < fu → P fu k := by
  intro d
  induction d with
  | zero =>
    intro k fu h1 h2 h3
    obtain ⟨fu, rfl⟩ : ∃ f, fu = f + 1 := ⟨fu - 1, by omega⟩
    rw [show k = n by omega]
    exact hb fu
  | succ d ih =>
    intro k fu h1 h2 h3
    obtain ⟨fu, rfl⟩ : ∃ f, fu = f + 1 := ⟨fu - 1, by omega⟩
    exact hs fu k (by omega) (ih (k + 1) fu (by omega) (by omega) (by omega))
theorem lpg {P : Nat → Nat → Prop} {n : Nat} (hn : n < 1000) (hb : ∀ fu, P (fu + 1) n) (hs : ∀ fu k, k < n → P fu (k + 1) → P (fu + 1) k) (k : Nat) (hk : k ≤ n) : P g_fuel k := lp hb hs (n - k) k g_fuel rfl hk (by unfold g_fuel; omega)
section ONE
variable {I : gI} {i : Nat}
theorem m_sq (hi : i < 12) (h : q_iron I i) : f_X10_square (nI i) I = some (f_X2_square (3 + 3 * i) I) := by
  unfold f_X10_square f_X2_square
  simp only [gin_nI hi (show 12 < 2 ^ 31 by omega), if_true, nI_clamp (show i < 2 ^ 31 by omega)]
  rw [h.1.2.1, h.1.2.2.1]
theorem m_ring (hi : i < 12) (h : q_iron I i) : f_X10_isRinger (nI i) I = some (f_X2_isRinger (3 + 3 * i) I) := by
  unfold f_X10_isRinger f_X2_isRinger
  rw [m_sq hi h]
  simp only [Option.bind_some, gin_nI hi (show 12 < 2 ^ 31 by omega), if_true, nI_clamp (show i < 2 ^ 31 by omega)]
  rw [h.1.2.2.2.2.1]
  split <;> rfl
def L_on (I : gI) (a b : Nat) : Bool := decide (I (3 + 3 * a) 7 = 0) && decide (I (3 + 3 * b) 7 = 0) && f_X2_overlaps (3 + 3 * a) (3 + 3 * b) I
theorem c_lies {a b : Nat} (ha : a < 12) (hb : b < 12) : f_X1_liesOn (nI a) (nI b) I = some (L_on I a b) := by
  unfold f_X1_liesOn L_on
  simp only [gin_nI ha (show 12 < 2 ^ 31 by omega), gin_nI hb (show 12 < 2 ^ 31 by omega), if_true, nI_clamp (show a < 2 ^ 31 by omega), nI_clamp (show b < 2 ^ 31 by omega)]
  by_cases h1 : I (3 + 3 * a) 7 = 0
  · by_cases h2 : I (3 + 3 * b) 7 = 0
    · by_cases h3 : f_X2_overlaps (3 + 3 * a) (3 + 3 * b) I = false
      · simp [h1, h2, h3]
      · simp [h1, h2, h3]
    · simp [h1, h2]
  · simp [h1]
theorem sq_cm (a b : Int32) : (a - b) * (a - b) = (b - a) * (b - a) := by grind
theorem m_lies {a b : Nat} (ha : a < 12) (hb : b < 12) (h1 : q_iron I a) (h2 : q_iron I b) : f_X10_liesOn (nI a) (nI b) I = some (decide (b < a) && L_on I a b) := by
  unfold f_X10_liesOn L_on f_X2_overlaps
  simp only [gin_nI ha (show 12 < 2 ^ 31 by omega), gin_nI hb (show 12 < 2 ^ 31 by omega), if_true, nI_clamp (show a < 2 ^ 31 by omega), nI_clamp (show b < 2 ^ 31 by omega)]
  rw [← h1.1.2.2.2.2.2.2.2, ← h2.1.2.2.2.2.2.2.2, ← h1.1.2.1, ← h2.1.2.1, ← h1.1.2.2.1, ← h2.1.2.2.1, ← h1.1.2.2.2.1, ← h2.1.2.2.2.1]
  simp only [nI_leI (show a < 2 ^ 31 by omega) (show b < 2 ^ 31 by omega)]
  rw [sq_cm (I (3 + 3 * b) 1), sq_cm (I (3 + 3 * b) 2), Int32.add_comm (I (3 + 3 * b) 3)]
  by_cases h0 : a ≤ b
  · rw [if_pos h0, decide_eq_false (by omega)]
    rfl
  · rw [if_neg h0, decide_eq_true (by omega)]
    by_cases h3 : I (3 + 3 * a) 7 = 0
    · by_cases h4 : I (3 + 3 * b) 7 = 0
      · simp only [h3, h4, if_true, decide_true, Bool.true_and]
        split <;> rfl
      · simp [h3, h4]
    · by_cases h4 : I (3 + 3 * b) 7 = 0
      · simp [h3, h4]
      · simp [h3, h4]
/-- spans -/
def lo1 (I : gI) (i k : Nat) (x : Int32) : Int32 := if I 96 (3 * i + k) = 0 then x else if I 97 (3 * i + k) ≤ x then x else I 97 (3 * i + k)
def hi1 (I : gI) (i k : Nat) (x : Int32) : Int32 := if I 96 (3 * i + k) = 0 then x else if x ≤ I 98 (3 * i + k) then x else I 98 (3 * i + k)
def sp_lo (I : gI) (i : Nat) : Int32 := lo1 I i 2 (lo1 I i 1 (lo1 I i 0 0))
def sp_hi (I : gI) (i : Nat) : Int32 := hi1 I i 2 (hi1 I i 1 (hi1 I i 0 9999))
def sp_b (I : gI) (i k : Nat) : Int32 := if I 96 (3 * i + k) = 0 then 0 else 1
def sp_n (I : gI) (i : Nat) : Int32 := sp_b I i 0 + sp_b I i 1 + sp_b I i 2
def sp_has (I : gI) (i : Nat) : Bool := if I 96 (3 * i) = 0 ∧ I 96 (3 * i + 1) = 0 ∧ I 96 (3 * i + 2) = 0 then false else true
def sp_dis (I : gI) (i : Nat) : Bool := if sp_lo I i ≤ sp_hi I i then false else true
theorem lo1_c {k : Nat} {x : Int32} (h : q_span I i k) (h0 : 0 ≤ x.toInt) : (if x < I (4 + 3 * i) k then I (4 + 3 * i) k else x) = lo1 I i k x ∧ 0 ≤ (lo1 I i k x).toInt := by
  unfold lo1
  have e1 : (-1 : Int32).toInt = -1 := by decide
  rcases h with ⟨h1, h2⟩ | ⟨h1, h2, h3, h4, h5, h6⟩
  · rw [h1, if_pos h2, if_neg (by rw [Int32.lt_iff_toInt_lt]; omega)]
    exact ⟨rfl, h0⟩
  · rw [h1, h2, if_neg (c := (1 : Int32) = 0) (by decide)]
    by_cases c : I 97 (3 * i + k) ≤ x
    · rw [if_pos c, if_neg (Int32.not_lt.mpr c)]
      exact ⟨rfl, h0⟩
    · rw [if_neg c, if_pos (Int32.not_le.mp c)]
      exact ⟨rfl, h4⟩
theorem hi1_c {k : Nat} {x : Int32} (h : q_span I i k) : (if I (4 + 3 * i) k = -1 then x else if I (5 + 3 * i) k < x then I (5 + 3 * i) k else x) = hi1 I i k x := by
  unfold hi1
  have e1 : (-1 : Int32).toInt = -1 := by decide
  rcases h with ⟨h1, h2⟩ | ⟨h1, h2, h3, h4, h5, h6⟩
  · rw [h1, if_pos h2, if_pos rfl]
  · rw [h1, h2, h3, if_neg (c := (1 : Int32) = 0) (by decide), if_neg (fun q => by rw [q, e1] at h4; omega)]
    by_cases c : x ≤ I 98 (3 * i + k)
    · rw [if_pos c, if_neg (Int32.not_lt.mpr c)]
    · rw [if_neg c, if_pos (Int32.not_le.mp c)]
theorem n1_c {k : Nat} {x : Int32} (h : q_span I i k) : (if I (4 + 3 * i) k = -1 then x else x + 1) = x + sp_b I i k := by
  unfold sp_b
  have e1 : (-1 : Int32).toInt = -1 := by decide
  rcases h with ⟨h1, h2⟩ | ⟨h1, h2, h3, h4, h5, h6⟩
  · rw [h1, if_pos h2, if_pos rfl, Int32.add_zero]
  · rw [h1, h2, if_neg (c := (1 : Int32) = 0) (by decide), if_neg (fun q => by rw [q, e1] at h4; omega)]
theorem c_low (h : q_iron I i) : f_X2_knownLow (3 + 3 * i) I = some (sp_lo I i) ∧ 0 ≤ (sp_lo I i).toInt := by
  have g0 := lo1_c (h.2.2.1 0 (by omega)) (x := 0) (by decide)
  have g1 := lo1_c (h.2.2.1 1 (by omega)) g0.2
  have g2 := lo1_c (h.2.2.1 2 (by omega)) g1.2
  refine ⟨?_, g2.2⟩
  unfold sp_lo
  rw [← g2.1, ← g1.1, ← g0.1]
  rw [show 4 + 3 * i = 3 + 3 * i + 1 by omega]
  rfl
theorem c_hs (fu k a : Nat) (hk : k < 3) {x : Int32} : f_X2_knownHigh_6 (fu + 1) a x (nI k) I = f_X2_knownHigh_6 fu a (if I (a + 1) k = -1 then x else if I (a + 2) k < x then I (a + 2) k else x) (nI (k + 1)) I := by
  rw [f_X2_knownHigh_6]
  unfold f_X2_knownHigh_32
  rw [if_neg (show ¬ (3 : Int32) ≤ nI k from nI_ge (b := 3) hk (by omega)), if_pos (gin_nI hk (by omega)), nI_clamp (by omega), nI_1]
  by_cases c : I (a + 1) k = -1
  · rw [if_pos c, if_pos c]
  · rw [if_neg c, if_neg c, if_pos (gin_nI hk (by omega))]
theorem c_high (h : q_iron I i) : f_X2_knownHigh (3 + 3 * i) I = some (sp_hi I i) := by
  have g0 := hi1_c (h.2.2.1 0 (by omega)) (x := 9999)
  have g1 := hi1_c (h.2.2.1 1 (by omega)) (x := hi1 I i 0 9999)
  have g2 := hi1_c (h.2.2.1 2 (by omega)) (x := hi1 I i 1 (hi1 I i 0 9999))
  unfold sp_hi
  rw [← g2, ← g1, ← g0, show 4 + 3 * i = 3 + 3 * i + 1 by omega, show 5 + 3 * i = 3 + 3 * i + 2 by omega]
  show f_X2_knownHigh_6 (996 + 1 + 1 + 1 + 1) (3 + 3 * i) 9999 (nI 0) I = _
  rw [c_hs _ _ _ (show 0 < 3 by omega), c_hs _ _ _ (show 0 + 1 < 3 by omega), c_hs _ _ _ (show 0 + 1 + 1 < 3 by omega)]
  rfl
theorem c_cnt (h : q_iron I i) : f_X2_countSpans (3 + 3 * i) I = some (sp_n I i) := by
  have g0 := n1_c (h.2.2.1 0 (by omega)) (x := 0)
  have g1 := n1_c (h.2.2.1 1 (by omega)) (x := 0 + sp_b I i 0)
  have g2 := n1_c (h.2.2.1 2 (by omega)) (x := 0 + sp_b I i 0 + sp_b I i 1)
  unfold sp_n
  rw [show sp_b I i 0 + sp_b I i 1 + sp_b I i 2 = 0 + sp_b I i 0 + sp_b I i 1 + sp_b I i 2 by rw [Int32.zero_add], ← g2, ← g1, ← g0]
  rw [show 4 + 3 * i = 3 + 3 * i + 1 by omega]
  rfl
theorem sp_n0 : (sp_n I i ≤ 0 ↔ sp_has I i = false) ∧ (sp_n I i = 0 ↔ sp_has I i = false) := by
  unfold sp_n sp_has sp_b
  rw [Nat.add_zero]
  by_cases h0 : I 96 (3 * i) = 0 <;> by_cases h1 : I 96 (3 * i + 1) = 0 <;> by_cases h2 : I 96 (3 * i + 2) = 0 <;> simp [h0, h1, h2] <;> decide
theorem ix3 : ∀ i, i < 12 → g_in (3 * nI i) 36 = true ∧ (3 * nI i).toNatClampNeg = 3 * i ∧ g_in (3 * nI i + 1) 36 = true ∧ (3 * nI i + 1).toNatClampNeg = 3 * i + 1 ∧ g_in (3 * nI i + 2) 36 = true ∧ (3 * nI i + 2).toNatClampNeg = 3 * i + 2 := by decide +kernel
theorem ix3k : ∀ i, i < 12 → ∀ k, k < 3 → g_in (3 * nI i + nI k) 36 = true ∧ (3 * nI i + nI k).toNatClampNeg = 3 * i + k := by decide +kernel
theorem m_has (hi : i < 12) : f_X10_hasSpan (nI i) I = some (sp_has I i) := by
  obtain ⟨e1, e2, e3, e4, e5, e6⟩ := ix3 i hi
  unfold f_X10_hasSpan sp_has f_X10_hasSpan_37
  simp only [e1, e2, e3, e4, e5, e6, if_true]
  by_cases h0 : I 96 (3 * i) = 0 <;> by_cases h1 : I 96 (3 * i + 1) = 0 <;> by_cases h2 : I 96 (3 * i + 2) = 0 <;> simp [h0, h1, h2]
theorem m_sp0 (fu k : Nat) (hi : i < 12) (hk : k < 3) (x : Int32) : f_X10_spanOf_15 (fu + 1) (nI i) 0 x (nI k) I = f_X10_spanOf_15 fu (nI i) 0 (lo1 I i k x) (nI (k + 1)) I := by
  obtain ⟨e1, e2⟩ := ix3k i hi k hk
  rw [f_X10_spanOf_15]
  unfold f_X10_spanOf_91 f_X10_spanOf_90 f_X10_spanOf_91 lo1
  rw [if_neg (show ¬ (3 : Int32) ≤ nI k from nI_ge (b := 3) hk (by omega)), if_pos e1, e2, nI_1]
  by_cases c : I 96 (3 * i + k) = 0
  · rw [if_pos c, if_pos c]
  · rw [if_neg c, if_neg c, if_pos rfl, if_pos e1]
    by_cases c2 : I 97 (3 * i + k) ≤ x
    · rw [if_pos c2, if_pos c2]
    · rw [if_neg c2, if_neg c2, if_pos e1]
theorem m_sp1 (fu k : Nat) (hi : i < 12) (hk : k < 3) (x : Int32) : f_X10_spanOf_15 (fu + 1) (nI i) 1 x (nI k) I = f_X10_spanOf_15 fu (nI i) 1 (hi1 I i k x) (nI (k + 1)) I := by
  obtain ⟨e1, e2⟩ := ix3k i hi k hk
  rw [f_X10_spanOf_15]
  unfold f_X10_spanOf_91 f_X10_spanOf_90 f_X10_spanOf_91 hi1
  rw [if_neg (show ¬ (3 : Int32) ≤ nI k from nI_ge (b := 3) hk (by omega)), if_pos e1, e2, nI_1]
  by_cases c : I 96 (3 * i + k) = 0
  · rw [if_pos c, if_pos c]
  · rw [if_neg c, if_neg c, if_neg (by decide), if_pos e1]
    by_cases c2 : x ≤ I 98 (3 * i + k)
    · rw [if_pos c2, if_pos c2]
    · rw [if_neg c2, if_neg c2, if_pos e1]
theorem m_low (hi : i < 12) : f_X10_spanOf (nI i) 0 I = some (sp_lo I i) := by
  show f_X10_spanOf_15 (996 + 1 + 1 + 1 + 1) (nI i) 0 0 (nI 0) I = _
  rw [m_sp0 _ _ hi (by omega), m_sp0 _ _ hi (by omega), m_sp0 _ _ hi (by omega)]
  rfl
theorem m_high (hi : i < 12) : f_X10_spanOf (nI i) 1 I = some (sp_hi I i) := by
  show f_X10_spanOf_15 (996 + 1 + 1 + 1 + 1) (nI i) 1 9999 (nI 0) I = _
  rw [m_sp1 _ _ hi (by omega), m_sp1 _ _ hi (by omega), m_sp1 _ _ hi (by omega)]
  rfl
theorem c_dis (h : q_iron I i) : f_X2_isDisputed (3 + 3 * i) I = some (sp_dis I i) := by
  unfold f_X2_isDisputed sp_dis
  rw [(c_low h).1, c_high h]
  simp only [Option.bind_some]
  split <;> rfl
theorem m_dis (hi : i < 12) : f_X10_isDisputed (nI i) I = some (sp_dis I i) := by
  unfold f_X10_isDisputed
  rw [m_has hi, m_low hi, m_high hi]
  simp only [Option.bind_some]
  by_cases c : sp_has I i = false
  · rw [if_pos c]
    have : I 96 (3 * i) = 0 ∧ I 96 (3 * i + 1) = 0 ∧ I 96 (3 * i + 2) = 0 := by
      unfold sp_has at c
      by_cases q : I 96 (3 * i) = 0 ∧ I 96 (3 * i + 1) = 0 ∧ I 96 (3 * i + 2) = 0
      · exact q
      · rw [if_neg q] at c
        cases c
    unfold sp_dis sp_lo sp_hi lo1 hi1
    simp only [Nat.add_zero, this.1, this.2.1, this.2.2, if_true]
    rfl
  · rw [if_neg c]
    unfold sp_dis
    split <;> rfl
end ONE
