/-! sets of irons as numbers; the roots; told, measure, known -/
def b_set (p : Nat → Bool) : Nat → Int32
  | 0 => 0
  | n + 1 => b_set p n ||| (if p n = true then 1 <<< nI n else 0)
theorem b_set_cg {p q : Nat → Bool} : ∀ {n : Nat}, (∀ k, k < n → p k = q k) → b_set p n = b_set q n := by
  intro n
  induction n with
  | zero => intro _; rfl
  | succ n ih =>
    intro h
    show b_set p n ||| _ = b_set q n ||| _
    rw [ih (fun k hk => h k (by omega)), h n (by omega)]
theorem b_set_0 {p : Nat → Bool} : ∀ {n : Nat}, (∀ k, k < n → p k = false) → b_set p n = 0 := by
  intro n
  induction n with
  | zero => intro _; rfl
  | succ n ih =>
    intro h
    show b_set p n ||| _ = 0
    rw [ih (fun k hk => h k (by omega)), h n (by omega)]
    simp
theorem b_set_le {p : Nat → Bool} {a : Nat} : ∀ {n : Nat}, a ≤ n → (∀ k, a ≤ k → k < n → p k = false) → b_set p n = b_set p a := by
  intro n
  induction n with
  | zero =>
    intro h _
    rw [show a = 0 by omega]
  | succ n ih =>
    intro h h2
    by_cases e : a = n + 1
    · rw [e]
    · show b_set p n ||| _ = _
      rw [ih (by omega) (fun k h3 h4 => h2 k h3 (by omega)), h2 n (by omega) (by omega)]
      simp
theorem sh31 : ∀ k, k < 32 → nI k &&& 31 = nI k := by decide +kernel
theorem bs_c (b : Bool) (x : Int32) {k : Nat} (hk : k < 32) : (if b = false then x else (x ||| (1 <<< (nI k &&& 31)))) = x ||| (if b = true then 1 <<< nI k else 0) := by
  rw [sh31 k hk]
  cases b
  · simp
  · simp
theorem bs_m (b : Bool) {k : Nat} (hk : k < 32) : f_X10_bit (g_b b) <<< (nI k &&& 31) = (if b = true then 1 <<< nI k else 0) := by
  rw [sh31 k hk, b_m]
  cases b
  · have : ∀ k, k < 32 → (0 : Int32) <<< nI k = 0 := by decide +kernel
    simp [this k hk]
  · simp
theorem c_on {I : gI} {n j : Nat} (h1 : I 1 1 = nI n) (hn : n ≤ 12) (hj : j < n) : f_X1_lyingOn (nI j) I = some (b_set (fun k => decide (j < k) && L_on I k j) n) := by
  unfold f_X1_lyingOn
  rw [nI_1, show (0 : Int32) = b_set (fun k => decide (j < k) && L_on I k j) (j + 1) from (b_set_0 (fun k hk => by rw [decide_eq_false (by omega)]; rfl)).symm]
  suffices H : ∀ k, k ≤ n → (fun fu k => j < k → f_X1_lyingOn_6 fu (nI j) (b_set (fun k => decide (j < k) && L_on I k j) k) (nI k) I = some (b_set (fun k => decide (j < k) && L_on I k j) n)) g_fuel k from H (j + 1) (by omega) (by omega)
  intro k hk
  refine lpg (P := fun fu k => j < k → f_X1_lyingOn_6 fu (nI j) (b_set (fun k => decide (j < k) && L_on I k j) k) (nI k) I = some (b_set (fun k => decide (j < k) && L_on I k j) n)) (n := n) (by omega) (fun fu _ => ?_) (fun fu k hk ih hjk => ?_) k hk
  · rw [f_X1_lyingOn_6, h1, if_pos (nI_le (Nat.le_refl _) (by omega))]
  · rw [f_X1_lyingOn_6, h1, if_neg (nI_ge hk (by omega)), c_lies (by omega) (by omega)]
    simp only [Option.bind_some]
    unfold f_X1_lyingOn_29
    rw [bs_c _ _ (by omega), nI_1]
    have := ih (by omega)
    simp only [b_set, decide_eq_true hjk, Bool.true_and] at this
    exact this
theorem c_under {I : gI} {j : Nat} (hj : j < 12) : f_X1_lyingUnder (nI j) I = some (b_set (fun k => L_on I j k) j) := by
  unfold f_X1_lyingUnder
  refine lpg (P := fun fu k => f_X1_lyingUnder_4 fu (nI j) (b_set (fun k => L_on I j k) k) (nI k) I = some (b_set (fun k => L_on I j k) j)) (n := j) (by omega) (fun fu => ?_) (fun fu k hk ih => ?_) 0 (by omega)
  · rw [f_X1_lyingUnder_4, if_pos (nI_le (Nat.le_refl _) (by omega))]
  · rw [f_X1_lyingUnder_4, if_neg (nI_ge hk (by omega)), c_lies (by omega) (by omega)]
    simp only [Option.bind_some]
    unfold f_X1_lyingUnder_24
    rw [bs_c _ _ (by omega), nI_1]
    exact ih
/-! the whole root -/
def isRt (v s : Nat) : Prop := s * s ≤ v ∧ v < (s + 1) * (s + 1)
theorem isRt_u {v s t : Nat} (h : isRt v s) (h2 : isRt v t) : s = t := by
  obtain ⟨h1, h3⟩ := h
  obtain ⟨h4, h5⟩ := h2
  rcases Nat.lt_trichotomy s t with q | q | q
  · have := Nat.mul_le_mul (show s + 1 ≤ t from q) (show s + 1 ≤ t from q)
    omega
  · exact q
  · have := Nat.mul_le_mul (show t + 1 ≤ s from q) (show t + 1 ≤ s from q)
    omega
theorem nI_mul (a b : Nat) : nI a * nI b = nI (a * b) := (Int32.ofNat_mul a b).symm
theorem rt_m {v : Nat} (hv : v ≤ 720000) : ∀ (d r fu : Nat), 849 - r = d → r * r ≤ v → d < fu → ∃ s, f_X10_rootOf_2 fu (nI v) (nI r) = some (nI s) ∧ isRt v s := by
  intro d
  induction d with
  | zero =>
    intro r fu h1 h2 h3
    exfalso
    have : 849 * 849 ≤ r * r := Nat.mul_le_mul (by omega) (by omega)
    omega
  | succ d ih =>
    intro r fu h1 h2 h3
    obtain ⟨fu, rfl⟩ : ∃ f, fu = f + 1 := ⟨fu - 1, by omega⟩
    have hr : (r + 1) * (r + 1) ≤ 849 * 849 := Nat.mul_le_mul (by omega) (by omega)
    rw [f_X10_rootOf_2, nI_1, nI_mul]
    by_cases c : v < (r + 1) * (r + 1)
    · rw [if_pos (nI_lt c (by omega))]
      exact ⟨r, rfl, h2, c⟩
    · rw [if_neg (nI_nlt (by omega) (by omega))]
      exact ih (r + 1) fu (by omega) (by omega) (by omega)
theorem half : ∀ b, b < 1024 → nI b / 2 = nI (b / 2) := by decide +kernel
theorem rt_c {v : Nat} (hv : v ≤ 720000) : ∀ (k r fu : Nat), k ≤ 10 → r + 2 ^ k ≤ 1024 → r * r ≤ v → v < (r + 2 ^ k) * (r + 2 ^ k) → k < fu → ∃ s, f_X9_wholeRoot_6 fu (nI v) (nI r) (nI (2 ^ k / 2)) = some (nI s) ∧ isRt v s := by
  intro k
  induction k with
  | zero =>
    intro r fu _ _ h2 h3 h4
    obtain ⟨fu, rfl⟩ : ∃ f, fu = f + 1 := ⟨fu - 1, by omega⟩
    rw [f_X9_wholeRoot_6, if_pos (by decide)]
    exact ⟨r, rfl, h2, h3⟩
  | succ k ih =>
    intro r fu hk h1 h2 h3 h4
    obtain ⟨fu, rfl⟩ : ∃ f, fu = f + 1 := ⟨fu - 1, by omega⟩
    have e : 2 ^ (k + 1) / 2 = 2 ^ k := by rw [Nat.pow_succ]; omega
    have e2 : 2 ^ (k + 1) = 2 ^ k + 2 ^ k := by rw [Nat.pow_succ]; omega
    have hp : 0 < 2 ^ k := Nat.two_pow_pos k
    have hb : (r + 2 ^ k) * (r + 2 ^ k) ≤ 1024 * 1024 := Nat.mul_le_mul (by omega) (by omega)
    rw [e, f_X9_wholeRoot_6, if_neg (nI_nle hp (by omega)), nI_add, nI_mul]
    unfold f_X9_wholeRoot_23
    rw [half _ (by omega)]
    by_cases c : v < (r + 2 ^ k) * (r + 2 ^ k)
    · rw [if_pos (nI_lt c (by omega))]
      exact ih r fu (by omega) (by omega) h2 c (by omega)
    · rw [if_neg (nI_nlt (by omega) (by omega))]
      refine ih (r + 2 ^ k) fu (by omega) (by omega) (by omega) ?_ (by omega)
      rw [show r + 2 ^ k + 2 ^ k = r + 2 ^ (k + 1) by omega]
      exact h3
theorem rt_b {v : Nat} (hv : v ≤ 720000) : ∃ s, f_X9_wholeRoot (nI v) = some (nI s) ∧ f_X10_rootOf (nI v) = some (nI s) ∧ isRt v s := by
  obtain ⟨s, h1, h2⟩ := rt_c hv 10 0 g_fuel (by omega) (by decide) (by omega) (by omega) (by decide)
  obtain ⟨t, h3, h4⟩ := rt_m hv 849 0 g_fuel (by omega) (by omega) (by decide)
  refine ⟨s, h1, ?_, h2⟩
  rw [isRt_u h2 h4]
  exact h3
theorem i_sq {x : Int} (h1 : -600 ≤ x) (h2 : x ≤ 600) : 0 ≤ x * x ∧ x * x ≤ 360000 := by
  have h3 : x.natAbs ≤ 600 := by omega
  have h4 := Nat.mul_le_mul h3 h3
  have h5 : ((x.natAbs * x.natAbs : Nat) : Int) = x * x := Int.natAbs_mul_self
  omega
theorem sq_v {I : gI} {i : Nat} (h : q_iron I i) : ∃ v : Nat, v ≤ 720000 ∧ f_X2_square (3 + 3 * i) I = nI v ∧ (v : Int) = (I 89 i).toInt * (I 89 i).toInt + (I 90 i).toInt * (I 90 i).toInt := by
  obtain ⟨g1, g2, -⟩ := h
  unfold f_X2_square
  rw [g1.2.1, g1.2.2.1]
  have hx := i_sq g2.2.1.1 g2.2.1.2
  have hy := i_sq g2.2.2.1.1 g2.2.2.1.2
  have e : (I 89 i * I 89 i + I 90 i * I 90 i).toInt = (I 89 i).toInt * (I 89 i).toInt + (I 90 i).toInt * (I 90 i).toInt := by
    rw [t_add (by rw [t_mul (by omega) (by omega), t_mul (by omega) (by omega)]; omega) (by rw [t_mul (by omega) (by omega), t_mul (by omega) (by omega)]; omega), t_mul (by omega) (by omega), t_mul (by omega) (by omega)]
  refine ⟨((I 89 i).toInt * (I 89 i).toInt + (I 90 i).toInt * (I 90 i).toInt).toNat, by omega, ?_, by omega⟩
  apply Int32.toInt_inj.mp
  rw [e, nI_toInt (by omega)]
  omega
theorem nI_b {x : Int32} {a b : Nat} (h : q_b x a b) (hb : b < 2 ^ 31) : ∃ j, a ≤ j ∧ j ≤ b ∧ x = nI j := by
  obtain ⟨h1, h2⟩ := h
  obtain ⟨j, hj, rfl⟩ := nI_lt_of (x := x) (n := b + 1) (by omega) (by omega)
  rw [nI_toInt (by omega)] at h1
  exact ⟨j, by omega, by omega, rfl⟩
theorem near_b {I : gI} {i : Nat} (hi : i < 12) (h : q_iron I i) : ∃ r, f_X2_cutNearness (3 + 3 * i) I = some r ∧ f_X10_nearness (nI i) I = some r := by
  obtain ⟨v, hv, hs, -⟩ := sq_v h
  obtain ⟨s, r1, r2, hr⟩ := rt_b hv
  unfold f_X2_cutNearness f_X10_nearness f_X10_hasRoot
  rw [m_sq hi h, hs, r1, h.1.2.2.2.1, h.1.2.2.2.2.2.1]
  obtain ⟨z, hz1, hz2, ez⟩ := nI_b (a := 2) (b := 60) h.2.1.2.2.2.1 (by omega)
  obtain ⟨w, hw1, hw2, ew⟩ := nI_b (a := 0) (b := 9) h.2.1.2.2.2.2.2.1 (by omega)
  have hzz : z * z ≤ 60 * 60 := Nat.mul_le_mul hz2 hz2
  have hs849 : s < 849 := by
    apply Nat.lt_of_not_le
    intro q
    have := Nat.mul_le_mul q q
    have := hr.1
    omega
  simp only [Option.bind_some, gin_nI hi (show 12 < 2 ^ 31 by omega), if_true, nI_clamp (show i < 2 ^ 31 by omega), r2, ez, ew, nI_mul]
  refine ⟨_, rfl, ?_⟩
  have e0 : (0 : Int32).toInt = 0 := by decide
  have ts : (nI s - nI z).toInt = (s : Int) - z := by rw [t_sub, nI_toInt (by omega), nI_toInt (by omega)] <;> rw [nI_toInt (by omega), nI_toInt (by omega)] <;> omega
  by_cases c : v < z * z
  · rw [if_pos (nI_lt c (by omega))]
    simp only [Option.bind_some, if_true]
    rw [if_neg, Int32.zero_add, Int32.add_zero]
    rw [Int32.lt_iff_toInt_lt, ts, e0]
    have : s < z := by
      apply Nat.lt_of_not_le
      intro q
      have := Nat.mul_le_mul q q
      have := hr.1
      omega
    omega
  · rw [if_neg (nI_nlt (by omega) (by omega))]
    simp only [Option.bind_some, Bool.true_eq_false, if_false]
    have hsz : z ≤ s := by
      apply Nat.le_of_not_lt
      intro q
      have := Nat.mul_le_mul (show s + 1 ≤ z from q) (show s + 1 ≤ z from q)
      have := hr.2
      omega
    by_cases q : z = s
    · subst q
      rw [if_neg (by rw [Int32.lt_iff_toInt_lt, ts, e0]; omega), Int32.sub_self, Int32.add_comm]
    · rw [if_pos (by rw [Int32.lt_iff_toInt_lt, ts, e0]; omega), Int32.add_comm]

theorem told_m {I : gI} {n j : Nat} (hc : q_clay I n) (hj : j < n) (w : Int32) : f_X10_told (nI j) w I = f_X10_told_20 1 (nI j) w (b_set (fun k => decide (j < k) && L_on I k j) n) (b_set (fun k => decide (k < j) && L_on I j k) n) (nI n) I := by
  obtain ⟨h1, h2, hn, h4⟩ := hc
  unfold f_X10_told
  rw [k_no1 h2 hn hj]
  simp only [if_true]
  refine lpg (P := fun fu k => f_X10_told_20 fu (nI j) w (b_set (fun k => decide (j < k) && L_on I k j) k) (b_set (fun k => decide (k < j) && L_on I j k) k) (nI k) I = f_X10_told_20 1 (nI j) w (b_set (fun k => decide (j < k) && L_on I k j) n) (b_set (fun k => decide (k < j) && L_on I j k) n) (nI n) I) (n := n) (by omega) (fun fu => ?_) (fun fu k hk ih => ?_) 0 (by omega)
  · rw [f_X10_told_20, f_X10_told_20, h2, if_pos (nI_le (Nat.le_refl _) (by omega)), if_pos (nI_le (Nat.le_refl _) (by omega))]
  · rw [f_X10_told_20, h2, if_neg (nI_ge hk (by omega)), m_lies (by omega) (by omega) (h4 k hk) (h4 j hj), m_lies (by omega) (by omega) (h4 j hj) (h4 k hk)]
    simp only [Option.bind_some]
    rw [bs_m _ (by omega), bs_m _ (by omega), nI_1]
    exact ih
theorem o_told : op_told Inv := by
  intro m I J a1 w h
  obtain ⟨⟨n, hc⟩, -⟩ := id h
  obtain ⟨h1, h2, hn, h4⟩ := id hc
  rcases k_rng n a1 with ⟨j, hj, rfl⟩ | hx
  · have hq := h4 j hj
    obtain ⟨r5, n1, n2⟩ := near_b (by omega) hq
    rw [told_m hc hj w]
    unfold f_X9_told
    rw [k_find1 h1 hn hj]
    simp only [Option.bind_some]
    rw [f_X10_told_20, h2, if_pos (nI_le (Nat.le_refl _) (by omega)), m_sq (by omega) hq, m_ring (by omega) hq, n2, c_on h1 hn hj, c_under (show j < 12 by omega), gin_nI (show j < 12 by omega) (by omega), nI_clamp (by omega), ← hq.1.1, ← hq.1.2.1, ← hq.1.2.2.1, ← hq.1.2.2.2.2.2.2.2, ← hq.1.2.2.2.2.2.2.1, n1]
    have eu : b_set (fun k => decide (k < j) && L_on I j k) n = b_set (fun k => L_on I j k) j := by
      rw [b_set_le (a := j) (by omega) (fun k h3 _ => by rw [decide_eq_false (by omega)]; rfl)]
      exact b_set_cg (fun k hk => by rw [decide_eq_true hk]; rfl)
    rw [eu]
    simp only [Option.bind_some, if_true]
    have H : ∀ {x y : Option Int32}, (∃ r, x = some r) → x = y → ∃ r1 r2, x = some r1 ∧ y = some r2 ∧ r1 = r2 ∧ Inv m I J := fun ⟨r, hr⟩ he => ⟨r, r, hr, he ▸ hr, rfl, h⟩
    by_cases w0 : w = 0
    · subst w0; exact H ⟨_, rfl⟩ rfl
    by_cases w1 : w = 1
    · subst w1; exact H ⟨_, rfl⟩ rfl
    by_cases w2 : w = 2
    · subst w2; exact H ⟨_, rfl⟩ rfl
    by_cases w3 : w = 3
    · subst w3; exact H ⟨_, rfl⟩ rfl
    by_cases w4 : w = 4
    · subst w4; exact H ⟨_, rfl⟩ rfl
    by_cases w5 : w = 5
    · subst w5
      by_cases cr : f_X2_isRinger (3 + 3 * j) I = false
      · simp only [cr, if_true]
        exact H ⟨_, rfl⟩ rfl
      · simp only [cr, if_false]
        exact H ⟨_, rfl⟩ rfl
    by_cases w6 : w = 6
    · subst w6; exact H ⟨_, rfl⟩ rfl
    by_cases w7 : w = 7
    · subst w7; exact H ⟨_, rfl⟩ rfl
    by_cases w8 : w = 8
    · subst w8; exact H ⟨_, rfl⟩ rfl
    by_cases w9 : w = 9
    · subst w9; exact H ⟨_, rfl⟩ rfl
    · simp only [w0, w1, w2, w3, w4, w5, w6, w7, w8, w9, if_false]
      exact H ⟨_, rfl⟩ rfl
  · refine ⟨-1001, -1001, ?_, ?_, rfl, h⟩
    · unfold f_X9_told
      rw [k_find0 h1 hn hx]
      rfl
    · unfold f_X10_told
      rw [k_no0 h2 hn hx]
      rfl
theorem o_known : op_known Inv := by
  intro m I J a1 w h
  obtain ⟨⟨n, hc⟩, -⟩ := id h
  obtain ⟨h1, h2, hn, h4⟩ := id hc
  rcases k_rng n a1 with ⟨j, hj, rfl⟩ | hx
  · have hq := h4 j hj
    have hj12 : j < 12 := by omega
    have e0 : (0 : Int32).toInt = 0 := by decide
    have e1 : (1 : Int32).toInt = 1 := by decide
    have f0 : (0 : Int64).toInt = 0 := by decide
    have f1 : (1 : Int64).toInt = 1 := by decide
    have H : ∀ {x y : Option Int32}, (∃ r, x = some r) → x = y → ∃ r1 r2, x = some r1 ∧ y = some r2 ∧ r1 = r2 ∧ Inv m I J := fun ⟨r, hr⟩ he => ⟨r, r, hr, he ▸ hr, rfl, h⟩
    unfold f_X9_known f_X10_known f_X10_known_42 f_X10_known_58
    rw [k_find1 h1 hn hj]
    simp only [Option.bind_some]
    rw [k_no1 h2 hn hj, w_in, m_in, Int32.toInt_toInt64, e0, e1, f0, f1, c_cnt hq, c_dis hq, (c_low hq).1, c_high hq, m_has hj12, m_dis hj12]
    simp only [Option.bind_some, if_true]
    by_cases c : 0 ≤ w.toInt ∧ w.toInt ≤ 1
    · rw [decide_eq_true c]
      simp only [if_true]
      by_cases d : sp_has I j = false
      · rw [if_pos (sp_n0.2.mpr d), if_pos d]
        exact H ⟨_, rfl⟩ rfl
      · rw [if_neg (fun q => d (sp_n0.2.mp q)), if_neg d]
        by_cases e : sp_dis I j = false
        · simp only [e, if_true]
          rcases q01 c with rfl | rfl
          · show ∃ r1 r2, some (sp_lo I j) = some r1 ∧ (f_X10_spanOf (nI j) 0 I).bind some = some r2 ∧ _
            rw [m_low hj12]
            exact H ⟨_, rfl⟩ rfl
          · show ∃ r1 r2, some (sp_hi I j) = some r1 ∧ (f_X10_spanOf (nI j) 1 I).bind some = some r2 ∧ _
            rw [m_high hj12]
            exact H ⟨_, rfl⟩ rfl
        · simp only [e, if_false]
          exact H ⟨_, rfl⟩ rfl
    · rw [decide_eq_false c]
      exact H ⟨_, rfl⟩ rfl
  · refine ⟨-1001, -1001, ?_, ?_, rfl, h⟩
    · unfold f_X9_known
      rw [k_find0 h1 hn hx]
      rfl
    · unfold f_X10_known
      rw [k_no0 h2 hn hx]
      rfl
