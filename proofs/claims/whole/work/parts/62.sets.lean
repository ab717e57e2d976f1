/-! sets of irons: how many, the latest, the earliest -/
def ball (p : Nat → Bool) : Nat → Bool
  | 0 => true
  | n + 1 => ball p n && p n
theorem ball_iff {p : Nat → Bool} : ∀ {n : Nat}, ball p n = true ↔ ∀ k, k < n → p k = true := by
  intro n
  induction n with
  | zero => exact ⟨fun _ k hk => absurd hk (by omega), fun _ => rfl⟩
  | succ n ih =>
    show (ball p n && p n) = true ↔ _
    rw [Bool.and_eq_true, ih]
    constructor
    · rintro ⟨h1, h2⟩ k hk
      by_cases e : k = n
      · rw [e]
        exact h2
      · exact h1 k (by omega)
    · intro h
      exact ⟨fun k hk => h k (by omega), h n (by omega)⟩
theorem ball_cg {p q : Nat → Bool} {n : Nat} (h : ∀ k, k < n → p k = q k) : ball p n = ball q n := by
  rw [Bool.eq_iff_iff, ball_iff, ball_iff]
  exact ⟨fun a k hk => by rw [← h k hk]; exact a k hk, fun a k hk => by rw [h k hk]; exact a k hk⟩
theorem ball_le {p : Nat → Bool} {a n : Nat} (ha : a ≤ n) (h : ∀ k, a ≤ k → k < n → p k = true) : ball p n = ball p a := by
  rw [Bool.eq_iff_iff, ball_iff, ball_iff]
  exact ⟨fun b k hk => b k (by omega), fun b k hk => if q : k < a then b k q else h k (by omega) hk⟩
def bin (x : Int32) (i : Nat) : Int32 := if tb x i = true then 1 else 0
theorem bc_d0 : ∀ a, a < 64 → ∀ b, b < 64 → f_J6_bitCount_0f7a4 (nI (64 * a + b)) = s_sum (bin (nI (64 * a + b))) 12 := by decide +kernel
theorem bc_d (k : Nat) (hk : k < 4096) : f_J6_bitCount_0f7a4 (nI k) = s_sum (bin (nI k)) 12 := by
  have := bc_d0 (k / 64) (by omega) (k % 64) (by omega)
  rw [show 64 * (k / 64) + k % 64 = k by omega] at this
  exact this
/-- no bit from the twelfth on -/
def low (x : Int32) : Prop := ∀ i, 12 ≤ i → tb x i = false
theorem low_of {x : Int32} (h : low x) : ∃ k, k < 4096 ∧ x = nI k := by
  refine ⟨x.toBitVec.toNat, ?_, ?_⟩
  · have : x.toBitVec.toNat < 2 ^ 12 := by
      apply Nat.lt_pow_two_of_testBit
      intro i hi
      exact h i hi
    omega
  · apply Int32.toBitVec_inj.mp
    show x.toBitVec = BitVec.ofNat 32 x.toBitVec.toNat
    rw [BitVec.ofNat_toNat, BitVec.setWidth_eq]
theorem bc_s {x : Int32} (h : low x) : f_J6_bitCount_0f7a4 x = s_sum (bin x) 12 := by
  obtain ⟨k, hk, rfl⟩ := low_of h
  exact bc_d k hk
theorem low_0 : low 0 := fun i _ => tb_0 i
theorem low_set {p : Nat → Bool} {n : Nat} (hn : n ≤ 12) : low (b_set p n) := fun i hi => by
  rw [tb_set (by omega), decide_eq_false (by omega)]
  rfl
theorem low_and {x y : Int32} (h : low x) : low (x &&& y) := fun i hi => by rw [tb_and, h i hi]; rfl
theorem low_and' {x y : Int32} (h : low y) : low (x &&& y) := fun i hi => by rw [tb_and, h i hi, Bool.and_false]
theorem low_or {x y : Int32} (h : low x) (h2 : low y) : low (x ||| y) := fun i hi => by rw [tb_or, h i hi, h2 i hi]; rfl
theorem low_1 {i : Nat} (hi : i < 12) : low (1 <<< nI i) := fun j hj => by rw [tb_one' (by omega), decide_eq_false (by omega)]
theorem ones_m {x : Int32} (h : low x) : f_X10_ones x = some (f_J6_bitCount_0f7a4 x) := by
  rw [bc_s h]
  unfold f_X10_ones
  refine lpg (P := fun fu k => f_X10_ones_4 fu x (s_sum (bin x) k) (nI k) = some (s_sum (bin x) 12)) (n := 12) (by omega) (fun fu => ?_) (fun fu k hk ih => ?_) 0 (by omega)
  · rw [f_X10_ones_4, if_pos (show (12 : Int32) ≤ nI 12 by decide)]
  · rw [f_X10_ones_4, if_neg (show ¬ (12 : Int32) ≤ nI k from nI_ge (b := 12) hk (by omega)), tb_t x (by omega), nI_1]
    exact ih
theorem bin_cg {x y : Int32} : ∀ n, (∀ i, i < n → tb x i = tb y i) → s_sum (bin x) n = s_sum (bin y) n := fun n h => s_sum_cg fun k hk => by unfold bin; rw [h k hk]
theorem bin_up {x : Int32} {i : Nat} (hi : i < 32) (h : tb x i = false) : ∀ n, i < n → n ≤ 32 → s_sum (bin (x ||| 1 <<< nI i)) n = s_sum (bin x) n + 1 := by
  intro n
  induction n with
  | zero => intro q; omega
  | succ n ih =>
    intro h1 h2
    rw [s_sum_s, s_sum_s]
    have e : ∀ j, tb (x ||| 1 <<< nI i) j = (tb x j || decide (j = i)) := fun j => by rw [tb_or, tb_one' hi]
    by_cases q : i = n
    · subst q
      rw [bin_cg (x := x ||| 1 <<< nI i) (y := x) i (fun j hj => by rw [e, decide_eq_false (by omega), Bool.or_false])]
      unfold bin
      rw [e, h, decide_eq_true rfl]
      simp
    · rw [ih (by omega) (by omega)]
      have : bin (x ||| 1 <<< nI i) n = bin x n := by
        unfold bin
        rw [e, decide_eq_false (by omega), Bool.or_false]
      rw [this]
      grind
theorem bc_up {x : Int32} {i : Nat} (hl : low x) (hi : i < 12) (h : tb x i = false) : f_J6_bitCount_0f7a4 (x ||| 1 <<< nI i) = f_J6_bitCount_0f7a4 x + 1 := by
  rw [bc_s hl, bc_s (low_or hl (low_1 hi)), bin_up (by omega) h 12 hi (by omega)]
theorem and_1 (x : Int32) {i : Nat} (hi : i < 32) : x &&& (1 <<< nI i) = if tb x i = true then 1 <<< nI i else 0 := by
  apply tb_ext
  intro j hj
  rw [tb_and, tb_one' hi]
  by_cases e : j = i
  · subst e
    rw [decide_eq_true rfl, Bool.and_true]
    by_cases c : tb x j = true
    · rw [if_pos c, tb_one' hi, c]
      simp
    · rw [if_neg c, tb_0]
      simpa using c
  · rw [decide_eq_false e, Bool.and_false]
    by_cases c : tb x i = true
    · rw [if_pos c, tb_one' hi, decide_eq_false e]
    · rw [if_neg c, tb_0]
theorem or_z (x : Int32) : x ||| 0 = x := by simp
theorem first_z {x : Int32} : ∀ (d k fu : Nat) (o z : Int32), k + d = 12 → d < fu → z ≤ 0 → f_X10_firstOf_7 fu x o z (nI k) = some o := by
  intro d
  induction d with
  | zero =>
    intro k fu o z h1 h2 h3
    obtain ⟨fu, rfl⟩ : ∃ f, fu = f + 1 := ⟨fu - 1, by omega⟩
    rw [f_X10_firstOf_7, show k = 12 by omega, if_pos (show (12 : Int32) ≤ nI 12 by decide)]
  | succ d ih =>
    intro k fu o z h1 h2 h3
    obtain ⟨fu, rfl⟩ : ∃ f, fu = f + 1 := ⟨fu - 1, by omega⟩
    rw [f_X10_firstOf_7, if_neg (show ¬ (12 : Int32) ≤ nI k from nI_ge (b := 12) (by omega) (by omega))]
    unfold f_X10_firstOf_38
    rw [if_pos h3, if_pos h3, nI_1]
    have e1 : (if ((x >>> (nI k &&& 31)) &&& 1) = 1 then o else o) = o := by split <;> rfl
    have e2 : (if ((x >>> (nI k &&& 31)) &&& 1) = 1 then z else z) = z := by split <;> rfl
    rw [e1, e2]
    exact ih (k + 1) fu o z (by omega) (by omega) h3
theorem first_b {x : Int32} {q : Nat} (hq : q ≤ 12) : ∀ (d k fu1 fu2 c : Nat) (o : Int32), k + d = 12 → d < fu1 → d < fu2 → low o → (∀ i, tb o i = true → i < k ∧ tb x i = true) → f_J6_bitCount_0f7a4 o = nI c → c ≤ q → c ≤ k → ∃ r, f_X7_earliest_4 fu1 x (nI q) o (nI k) = some r ∧ f_X10_firstOf_7 fu2 x o (nI (q - c)) (nI k) = some r ∧ ∀ i, tb r i = true → i < 12 ∧ tb x i = true := by
  intro d
  induction d with
  | zero =>
    intro k fu1 fu2 c o h1 h2 h3 h4 h5 h6 h7 h8
    obtain ⟨fu1, rfl⟩ : ∃ f, fu1 = f + 1 := ⟨fu1 - 1, by omega⟩
    obtain ⟨fu2, rfl⟩ : ∃ f, fu2 = f + 1 := ⟨fu2 - 1, by omega⟩
    refine ⟨o, ?_, ?_, fun i hi => ⟨by have := (h5 i hi).1; omega, (h5 i hi).2⟩⟩
    · rw [f_X7_earliest_4, show k = 12 by omega, if_pos (show (12 : Int32) ≤ nI 12 by decide)]
    · rw [f_X10_firstOf_7, show k = 12 by omega, if_pos (show (12 : Int32) ≤ nI 12 by decide)]
  | succ d ih =>
    intro k fu1 fu2 c o h1 h2 h3 h4 h5 h6 h7 h8
    obtain ⟨fu1, rfl⟩ : ∃ f, fu1 = f + 1 := ⟨fu1 - 1, by omega⟩
    rw [f_X7_earliest_4, if_neg (show ¬ (12 : Int32) ≤ nI k from nI_ge (b := 12) (by omega) (by omega)), h6]
    by_cases cq : c = q
    · rw [cq, if_pos (nI_le (Nat.le_refl _) (by omega))]
      refine ⟨o, rfl, first_z (d + 1) k fu2 o _ h1 h3 (by rw [Nat.sub_self]; decide), fun i hi => ⟨by have := (h5 i hi).1; omega, (h5 i hi).2⟩⟩
    · obtain ⟨fu2, rfl⟩ : ∃ f, fu2 = f + 1 := ⟨fu2 - 1, by omega⟩
      rw [if_neg (nI_ge (show c < q by omega) (by omega)), f_X10_firstOf_7, if_neg (show ¬ (12 : Int32) ≤ nI k from nI_ge (b := 12) (by omega) (by omega))]
      unfold f_X10_firstOf_38
      rw [sh31 k (by omega), and_1 x (by omega), nI_1]
      have hn0 : ¬ nI (q - c) ≤ 0 := nI_nle (by omega) (by omega)
      rw [if_neg hn0, if_neg hn0]
      have hk : tb o k = false := by
        rw [← Bool.not_eq_true]
        intro z
        have := (h5 k z).1
        omega
      by_cases b : tb x k = true
      · have b' : ((x >>> nI k) &&& 1) = 1 := by
          have := (tb_t1 x (o := k) (by omega)).mpr b
          rw [sh31 k (by omega)] at this
          exact this
        rw [if_pos b, if_pos b', if_pos b', show q - c = (q - (c + 1)) + 1 by omega, ← Int32.sub_eq_add_neg, nI_pred]
        refine ih (k + 1) fu1 fu2 (c + 1) _ (by omega) (by omega) (by omega) (low_or h4 (low_1 (by omega))) (fun i hi => ?_) ?_ (by omega) (by omega)
        · rw [tb_or, tb_one' (by omega), Bool.or_eq_true, decide_eq_true_iff] at hi
          rcases hi with hi | hi
          · exact ⟨by have := (h5 i hi).1; omega, (h5 i hi).2⟩
          · rw [hi]
            exact ⟨by omega, b⟩
        · rw [bc_up h4 (by omega) hk, h6, nI_1]
      · have b' : ¬ ((x >>> nI k) &&& 1) = 1 := fun z => b ((tb_t1 x (o := k) (by omega)).mp (by rw [sh31 k (by omega)]; exact z))
        rw [if_neg b, if_neg b', if_neg b', or_z]
        exact ih (k + 1) fu1 fu2 c o (by omega) (by omega) (by omega) h4 (fun i hi => ⟨by have := (h5 i hi).1; omega, (h5 i hi).2⟩) h6 h7 (by omega)
theorem bc_0 : f_J6_bitCount_0f7a4 0 = nI 0 := by decide +kernel
theorem first_v (x : Int32) {q : Nat} (hq : q ≤ 12) : ∃ r, f_X7_earliest x (nI q) = some r ∧ f_X10_firstOf x (nI q) = some r ∧ ∀ i, tb r i = true → i < 12 ∧ tb x i = true := by
  obtain ⟨r, h1, h2, h3⟩ := first_b (x := x) hq 12 0 g_fuel g_fuel 0 0 (by omega) (by unfold g_fuel; omega) (by unfold g_fuel; omega) low_0 (fun i hi => by rw [tb_0] at hi; cases hi) bc_0 (by omega) (by omega)
  exact ⟨r, h1, h2, h3⟩
theorem last_z {x : Int32} : ∀ (d fu : Nat) (o z : Int32), d ≤ 12 → d < fu → z ≤ 0 → f_X10_lastOf_8 fu x o z (nI d - 1) = some o := by
  intro d
  induction d with
  | zero =>
    intro fu o z h1 h2 h3
    obtain ⟨fu, rfl⟩ : ∃ f, fu = f + 1 := ⟨fu - 1, by omega⟩
    rw [f_X10_lastOf_8, if_pos (show nI 0 - 1 < 0 by decide)]
  | succ d ih =>
    intro fu o z h1 h2 h3
    obtain ⟨fu, rfl⟩ : ∃ f, fu = f + 1 := ⟨fu - 1, by omega⟩
    rw [f_X10_lastOf_8, nI_pred, if_neg (nI_pos (by omega))]
    unfold f_X10_lastOf_37
    rw [if_pos h3, if_pos h3, ← Int32.sub_eq_add_neg]
    have e1 : (if ((x >>> (nI d &&& 31)) &&& 1) = 1 then o else o) = o := by split <;> rfl
    have e2 : (if ((x >>> (nI d &&& 31)) &&& 1) = 1 then z else z) = z := by split <;> rfl
    rw [e1, e2]
    exact ih fu o z (by omega) (by omega) h3
theorem last_b {x : Int32} {q : Nat} (hq : q ≤ 12) : ∀ (d fu1 fu2 c : Nat) (o : Int32), d ≤ 12 → d < fu1 → d < fu2 → low o → (∀ i, tb o i = true → d ≤ i ∧ tb x i = true) → f_J6_bitCount_0f7a4 o = nI c → c ≤ q → ∃ r, f_X7_latest_5 fu1 x (nI q) o (nI d - 1) = some r ∧ f_X10_lastOf_8 fu2 x o (nI (q - c)) (nI d - 1) = some r ∧ low r ∧ ∀ i, tb r i = true → tb x i = true := by
  intro d
  induction d with
  | zero =>
    intro fu1 fu2 c o h1 h2 h3 h4 h5 h6 h7
    obtain ⟨fu1, rfl⟩ : ∃ f, fu1 = f + 1 := ⟨fu1 - 1, by omega⟩
    obtain ⟨fu2, rfl⟩ : ∃ f, fu2 = f + 1 := ⟨fu2 - 1, by omega⟩
    refine ⟨o, ?_, ?_, h4, fun i hi => (h5 i hi).2⟩
    · rw [f_X7_latest_5, if_pos (show nI 0 - 1 < 0 by decide)]
    · rw [f_X10_lastOf_8, if_pos (show nI 0 - 1 < 0 by decide)]
  | succ d ih =>
    intro fu1 fu2 c o h1 h2 h3 h4 h5 h6 h7
    obtain ⟨fu1, rfl⟩ : ∃ f, fu1 = f + 1 := ⟨fu1 - 1, by omega⟩
    rw [f_X7_latest_5, nI_pred, if_neg (nI_pos (by omega)), h6]
    by_cases cq : c = q
    · rw [cq, if_pos (nI_le (Nat.le_refl _) (by omega))]
      refine ⟨o, rfl, ?_, h4, fun i hi => (h5 i hi).2⟩
      have := last_z (x := x) (d + 1) fu2 o (nI (q - q)) h1 h3 (by rw [Nat.sub_self]; decide)
      rw [nI_pred] at this
      exact this
    · obtain ⟨fu2, rfl⟩ : ∃ f, fu2 = f + 1 := ⟨fu2 - 1, by omega⟩
      rw [if_neg (nI_ge (show c < q by omega) (by omega)), f_X10_lastOf_8, if_neg (nI_pos (by omega))]
      unfold f_X10_lastOf_37
      rw [sh31 d (by omega), and_1 x (by omega), ← Int32.sub_eq_add_neg]
      have hn0 : ¬ nI (q - c) ≤ 0 := nI_nle (by omega) (by omega)
      rw [if_neg hn0, if_neg hn0]
      have hk : tb o d = false := by
        rw [← Bool.not_eq_true]
        intro z
        have := (h5 d z).1
        omega
      by_cases b : tb x d = true
      · have b' : ((x >>> nI d) &&& 1) = 1 := by
          have := (tb_t1 x (o := d) (by omega)).mpr b
          rw [sh31 d (by omega)] at this
          exact this
        rw [if_pos b, if_pos b', if_pos b', show q - c = (q - (c + 1)) + 1 by omega, ← Int32.sub_eq_add_neg, nI_pred]
        refine ih fu1 fu2 (c + 1) _ (by omega) (by omega) (by omega) (low_or h4 (low_1 (by omega))) (fun i hi => ?_) ?_ (by omega)
        · rw [tb_or, tb_one' (by omega), Bool.or_eq_true, decide_eq_true_iff] at hi
          rcases hi with hi | hi
          · exact ⟨by have := (h5 i hi).1; omega, (h5 i hi).2⟩
          · rw [hi]
            exact ⟨by omega, b⟩
        · rw [bc_up h4 (by omega) hk, h6, nI_1]
      · have b' : ¬ ((x >>> nI d) &&& 1) = 1 := fun z => b ((tb_t1 x (o := d) (by omega)).mp (by rw [sh31 d (by omega)]; exact z))
        rw [if_neg b, if_neg b', if_neg b', or_z]
        exact ih fu1 fu2 c o (by omega) (by omega) (by omega) h4 (fun i hi => ⟨by have := (h5 i hi).1; omega, (h5 i hi).2⟩) h6 h7
theorem last_v (x : Int32) {q : Nat} (hq : q ≤ 12) : ∃ r, f_X7_latest x (nI q) = some r ∧ f_X10_lastOf x (nI q) = some r ∧ low r ∧ ∀ i, tb r i = true → tb x i = true := by
  obtain ⟨r, h1, h2, h3, h4⟩ := last_b (x := x) hq 12 g_fuel g_fuel 0 0 (by omega) (by unfold g_fuel; omega) (by unfold g_fuel; omega) low_0 (fun i hi => by rw [tb_0] at hi; cases hi) bc_0 (by omega)
  rw [show nI 12 - 1 = (11 : Int32) by decide] at h1 h2
  exact ⟨r, h1, h2, h3, h4⟩
theorem bc_le {x : Int32} (h : low x) : ∃ c, c ≤ 12 ∧ f_J6_bitCount_0f7a4 x = nI c := by
  rw [bc_s h]
  obtain ⟨b1, b2⟩ := s01_b (f := bin x) (fun k => by
    unfold bin
    split
    · exact Or.inr rfl
    · exact Or.inl rfl) 12 (by omega)
  obtain ⟨c, hc, e⟩ := nI_lt_of (x := s_sum (bin x) 12) (n := 13) b1 (by omega)
  exact ⟨c, by omega, e⟩
