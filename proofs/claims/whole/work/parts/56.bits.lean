/-! bits -/
def tb (x : Int32) (i : Nat) : Bool := x.toBitVec.getLsbD i
theorem tb_ext {x y : Int32} (h : ∀ i, i < 32 → tb x i = tb y i) : x = y := by
  apply Int32.toBitVec_inj.mp
  apply BitVec.eq_of_getLsbD_eq
  intro i hi
  exact h i hi
theorem tb_or (x y : Int32) (i : Nat) : tb (x ||| y) i = (tb x i || tb y i) := by
  unfold tb
  rw [Int32.toBitVec_or, BitVec.getLsbD_or]
theorem tb_and (x y : Int32) (i : Nat) : tb (x &&& y) i = (tb x i && tb y i) := by
  unfold tb
  rw [Int32.toBitVec_and, BitVec.getLsbD_and]
theorem tb_xor (x y : Int32) (i : Nat) : tb (x ^^^ y) i = (tb x i ^^ tb y i) := by
  unfold tb
  rw [Int32.toBitVec_xor, BitVec.getLsbD_xor]
theorem tb_m1 : ∀ i, i < 32 → tb (-1) i = true := by decide +kernel
theorem tb_0 (i : Nat) : tb 0 i = false := by
  show (0#32).getLsbD i = false
  simp
theorem tb_one : ∀ n, n < 32 → ∀ i, i < 32 → tb (1 <<< nI n) i = decide (i = n) := by decide +kernel
theorem tb_hi (x : Int32) {i : Nat} (h : 32 ≤ i) : tb x i = false := BitVec.getLsbD_of_ge _ _ h
theorem tb_one' {n : Nat} (hn : n < 32) (i : Nat) : tb (1 <<< nI n) i = decide (i = n) := by
  by_cases h : i < 32
  · exact tb_one n hn i h
  · rw [tb_hi _ (by omega), decide_eq_false (by omega)]
theorem tb_set {p : Nat → Bool} : ∀ {n : Nat}, n ≤ 32 → ∀ i, tb (b_set p n) i = (decide (i < n) && p i) := by
  intro n
  induction n with
  | zero =>
    intro _ i
    show tb 0 i = _
    rw [tb_0]
    simp
  | succ n ih =>
    intro hn i
    show tb (b_set p n ||| (if p n = true then 1 <<< nI n else 0)) i = _
    rw [tb_or, ih (by omega)]
    by_cases c : p n = true
    · rw [if_pos c, tb_one' (by omega)]
      by_cases e : i = n
      · subst e
        simp [c]
      · simp only [e, decide_false, Bool.or_false]
        by_cases q : i < n
        · simp [q, show i < n + 1 by omega]
        · simp [q, show ¬ i < n + 1 by omega]
    · rw [if_neg c, tb_0, Bool.or_false]
      by_cases e : i = n
      · subst e
        simp [c]
      · by_cases q : i < n
        · simp [q, show i < n + 1 by omega]
        · simp [q, show ¬ i < n + 1 by omega]
theorem sar_s : ∀ o, o < 32 → (nI o &&& 31).toBitVec.smod 32 = BitVec.ofNat 32 o := by decide +kernel
theorem b1_ : ∀ i, i < 32 → (1#32).getLsbD i = decide (i = 0) := by decide +kernel
theorem tb_t (x : Int32) {o : Nat} (h : o < 32) : (x >>> (nI o &&& 31)) &&& 1 = if tb x o = true then 1 else 0 := by
  apply Int32.toBitVec_inj.mp
  have e1 : ((x >>> (nI o &&& 31)) &&& 1).toBitVec = (x.toBitVec.sshiftRight ((nI o &&& 31).toBitVec.smod 32).toNat) &&& 1#32 := rfl
  have t : (BitVec.ofNat 32 o).toNat = o := by
    rw [BitVec.toNat_ofNat]
    exact Nat.mod_eq_of_lt (by omega)
  rw [e1, sar_s o h, t]
  apply BitVec.eq_of_getLsbD_eq
  intro i hi
  rw [BitVec.getLsbD_and, BitVec.getLsbD_sshiftRight, b1_ i hi]
  by_cases c : i = 0
  · subst c
    simp only [decide_true, Bool.and_true, Nat.add_zero, h, if_true]
    by_cases d : tb x o = true
    · rw [if_pos d]
      unfold tb at d
      rw [d]
      decide
    · rw [if_neg d]
      unfold tb at d
      simp only [Bool.not_eq_true] at d
      rw [d]
      decide
  · simp only [c, decide_false, Bool.and_false]
    by_cases d : tb x o = true
    · rw [if_pos d]
      show false = (1#32).getLsbD i
      rw [b1_ i hi]
      simp [c]
    · rw [if_neg d]
      show false = (0#32).getLsbD i
      simp
theorem tb_t1 (x : Int32) {o : Nat} (h : o < 32) : ((x >>> (nI o &&& 31)) &&& 1 = 1) ↔ tb x o = true := by
  rw [tb_t x h]
  by_cases c : tb x o = true
  · simp [c]
  · simp [c]
theorem tb_t0 (x : Int32) {o : Nat} (h : o < 32) : ((x >>> (nI o &&& 31)) &&& 1 = 0) ↔ tb x o = false := by
  rw [tb_t x h]
  by_cases c : tb x o = true
  · simp [c]
  · simp [c]
theorem tb_63 : ∀ i, i < 6 → tb 63 i = true := by decide +kernel
/-! sums, added -/
theorem s_sum_add (f g : Nat → Int32) : ∀ n, s_sum f n + s_sum g n = s_sum (fun k => f k + g k) n := by
  intro n
  induction n with
  | zero => rfl
  | succ n ih =>
    show s_sum f n + f n + (s_sum g n + g n) = s_sum (fun k => f k + g k) n + (f n + g n)
    rw [← ih]
    grind
theorem s_sum_lin (f g : Nat → Int32) : ∀ n, 2 * s_sum f n + s_sum g n = s_sum (fun k => 2 * f k + g k) n := by
  intro n
  induction n with
  | zero => rfl
  | succ n ih =>
    show 2 * (s_sum f n + f n) + (s_sum g n + g n) = s_sum (fun k => 2 * f k + g k) n + (2 * f n + g n)
    rw [← ih]
    grind
theorem s_sum_z {f : Nat → Int32} : ∀ {n : Nat}, (∀ k, k < n → f k = 0) → s_sum f n = 0 := by
  intro n
  induction n with
  | zero => intro _; rfl
  | succ n ih =>
    intro h
    show s_sum f n + f n = 0
    rw [ih (fun k hk => h k (by omega)), h n (by omega)]
    rfl
