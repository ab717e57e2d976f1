/-! who is ahead, of both; what pays -/
def cmpC (J : gJ) (mg : Int32) (i j : Nat) : Bool := decide (f_X9_compareSums (J 58 i) (J 59 i + Int32.toInt64 mg) (J 58 j) (J 59 j) < 0)
def cmpM (J : gJ) (by_ : Int64) (i j : Nat) : Bool := !decide (0 ≤ f_X10_held (J 103 i) (J 104 i + by_) (J 103 j) (J 104 j))
def ahC (J : gJ) (mg mask : Int32) (i n : Nat) : Bool := ball (fun j => !tb mask j || cmpC J mg i j) n
def ahM (J : gJ) (by_ : Int64) (mask : Int32) (i n : Nat) : Bool := ball (fun j => !tb mask j || cmpM J by_ i j) n
theorem is_c {J : gJ} {mg mask : Int32} {i : Nat} (hi : i < 12) : f_X7_isAhead (nI i) mask mg J = some (ahC J mg mask i 12) := by
  unfold f_X7_isAhead ahC
  obtain ⟨p, ep⟩ : ∃ p : Nat → Bool, p = fun j => !tb mask j || cmpC J mg i j := ⟨_, rfl⟩
  rw [← ep]
  refine lpg (P := fun fu j => ball p j = true → f_X7_isAhead_3 fu (nI i) mask mg (nI j) J = some (ball p 12)) (n := 12) (by omega) (fun fu a => ?_) (fun fu j hj ih a => ?_) 0 (by omega) rfl
  · rw [f_X7_isAhead_3, if_pos (show (12 : Int32) ≤ nI 12 by decide), a]
  · rw [f_X7_isAhead_3, if_neg (show ¬ (12 : Int32) ≤ nI j from nI_ge (b := 12) hj (by omega))]
    unfold f_X7_isAhead_24 f_X7_isAhead_68
    rw [gin_nI hi (by omega), gin_nI hj (by omega), nI_clamp (by omega), nI_clamp (by omega)]
    simp only [if_true, nI_1]
    have hp : p j = (!tb mask j || cmpC J mg i j) := by rw [ep]
    have hb : ball p (j + 1) = p j := by
      show (ball p j && p j) = p j
      rw [a, Bool.true_and]
    by_cases c : tb mask j = false
    · rw [if_pos ((tb_t0 mask (by omega)).mpr c), if_pos rfl]
      refine ih ?_
      rw [hb, hp, c]
      rfl
    · have c' : tb mask j = true := by simpa using c
      rw [if_neg (fun z => c ((tb_t0 mask (by omega)).mp z)), if_neg (by decide)]
      rw [c', Bool.not_true, Bool.false_or] at hp
      by_cases d : f_X9_compareSums (J 58 i) (J 59 i + Int32.toInt64 mg) (J 58 j) (J 59 j) < 0
      · rw [if_pos d]
        refine ih ?_
        rw [hb, hp]
        exact decide_eq_true d
      · rw [if_neg d]
        congr 1
        symm
        rw [← Bool.not_eq_true, ball_iff]
        intro q
        have := q j hj
        rw [hp] at this
        exact d (of_decide_eq_true this)
theorem of_c {J : gJ} {own mask mg : Int32} : f_X7_aheadOf own mask mg J = some (b_set (fun i => tb own i && ahC J mg mask i 12) 12) := by
  unfold f_X7_aheadOf
  refine lpg (P := fun fu i => f_X7_aheadOf_6 fu own mask mg (b_set (fun i => tb own i && ahC J mg mask i 12) i) (nI i) J = some (b_set (fun i => tb own i && ahC J mg mask i 12) 12)) (n := 12) (by omega) (fun fu => ?_) (fun fu i hi ih => ?_) 0 (by omega)
  · rw [f_X7_aheadOf_6, if_pos (show (12 : Int32) ≤ nI 12 by decide)]
  · rw [f_X7_aheadOf_6, if_neg (show ¬ (12 : Int32) ≤ nI i from nI_ge (b := 12) hi (by omega)), is_c hi]
    unfold f_X7_aheadOf_42
    simp only [Option.bind_some]
    rw [bs_c _ _ (by omega), nI_1]
    have e : b_set (fun i => tb own i && ahC J mg mask i 12) (i + 1) = b_set (fun i => tb own i && ahC J mg mask i 12) i ||| (if (tb own i && ahC J mg mask i 12) = true then 1 <<< nI i else 0) := rfl
    rw [e] at ih
    by_cases c : tb own i = false
    · rw [if_pos ((tb_t0 own (by omega)).mpr c)]
      rw [c, Bool.false_and, if_neg (by decide), or_z] at ih
      exact ih
    · rw [if_neg (fun z => c ((tb_t0 own (by omega)).mp z))]
      rw [show tb own i = true by simpa using c, Bool.true_and] at ih
      exact ih
theorem is_m {I : gI} {J : gJ} {mask : Int32} {v n i : Nat} (h2 : I 87 0 = nI n) (hn : n ≤ 12) (hv : v < 6) (hi : i < 12) : f_X10_isAhead (nI v) (nI i) mask I J = some (ahM J ((10 : Int64) * Int32.toInt64 (I 100 (8 * v + 3))) mask i n) := by
  have i3 : g_in (8 * nI v + 3) 48 = true := (ix8 v hv 3 (by omega)).1
  have j3 : (8 * nI v + 3).toNatClampNeg = 8 * v + 3 := (ix8 v hv 3 (by omega)).2
  unfold f_X10_isAhead ahM
  rw [i3, j3, if_pos rfl]
  obtain ⟨y, ey⟩ : ∃ y, y = (10 : Int64) * Int32.toInt64 (I 100 (8 * v + 3)) := ⟨_, rfl⟩
  rw [← ey]
  obtain ⟨p, ep⟩ : ∃ p : Nat → Bool, p = fun j => !tb mask j || cmpM J y i j := ⟨_, rfl⟩
  rw [← ep]
  refine lpg (P := fun fu j => f_X10_isAhead_24 fu (nI i) mask (ball p j) y (nI j) I J = some (ball p n)) (n := n) (by omega) (fun fu => ?_) (fun fu j hj ih => ?_) 0 (by omega)
  · rw [f_X10_isAhead_24, h2, if_pos (nI_le (Nat.le_refl _) (by omega))]
  · rw [f_X10_isAhead_24, h2, if_neg (nI_ge hj (by omega)), gin_nI hi (by omega), gin_nI (show j < 12 by omega) (by omega), nI_clamp (by omega), nI_clamp (by omega)]
    unfold f_X10_isAhead_86 f_X10_isAhead_82 f_X10_isAhead_87
    simp only [if_true, nI_1]
    have hp : p j = (!tb mask j || cmpM J y i j) := by rw [ep]
    have hb : ball p (j + 1) = (ball p j && p j) := rfl
    have ih2 : ∀ c : Bool, c = ball p (j + 1) → f_X10_isAhead_24 fu (nI i) mask c y (nI (j + 1)) I J = some (ball p n) := fun c hc' => by rw [hc']; exact ih
    by_cases c0 : ball p j = false
    · rw [if_pos c0]
      refine ih2 _ ?_
      rw [hb, c0]
      rfl
    · rw [if_neg c0]
      rw [show ball p j = true by simpa using c0, Bool.true_and, hp] at hb
      by_cases c : tb mask j = false
      · rw [if_pos ((tb_t0 mask (by omega)).mpr c)]
        refine ih2 _ ?_
        rw [hb, c]
        rfl
      · rw [if_neg (fun z => c ((tb_t0 mask (by omega)).mp z))]
        rw [show tb mask j = true by simpa using c, Bool.not_true, Bool.false_or] at hb
        by_cases d : 0 ≤ f_X10_held (J 103 i) (J 104 i + y) (J 103 j) (J 104 j)
        · rw [if_pos d]
          refine ih2 _ ?_
          rw [hb]
          unfold cmpM
          rw [decide_eq_true d]
          rfl
        · rw [if_neg d]
          refine ih2 _ ?_
          rw [hb]
          unfold cmpM
          rw [decide_eq_false d]
          rfl
/-- the same nearness, as both hold it -/
def NE (R T r w : Int64) : Prop := (0 ≤ R.toInt ∧ R.toInt ≤ 72000000) ∧ (-600 ≤ T.toInt ∧ T.toInt ≤ 9999) ∧ (0 ≤ r.toInt ∧ r.toInt ≤ 72000000) ∧ (-600 ≤ w.toInt ∧ w.toInt ≤ 9999) ∧ eqv r.toInt w.toInt R.toInt T.toInt
def NR (n : Nat) (J1 J2 : gJ) : Prop := ∀ i, i < n → NE (J1 58 i) (J1 59 i) (J2 103 i) (J2 104 i)
theorem cmp_b {J1 J2 : gJ} {n i j : Nat} {x : Int32} (h : NR n J1 J2) (hi : i < n) (hj : j < n) (hx : q_b x 0 20) : cmpC J1 (10 * x) i j = cmpM J2 ((10 : Int64) * Int32.toInt64 x) i j := by
  obtain ⟨⟨a1, a2⟩, ⟨a3, a4⟩, ⟨a5, a6⟩, ⟨a7, a8⟩, a9⟩ := h i hi
  obtain ⟨⟨b1, b2⟩, ⟨b3, b4⟩, ⟨b5, b6⟩, ⟨b7, b8⟩, b9⟩ := h j hj
  obtain ⟨x1, x2⟩ := hx
  have e10 : (10 : Int32).toInt = 10 := by decide
  have l10 : (10 : Int64).toInt = 10 := by decide
  have e1 : (Int32.toInt64 (10 * x)).toInt = 10 * x.toInt := by
    rw [Int32.toInt_toInt64, t_mul (by rw [e10]; omega) (by rw [e10]; omega), e10]
  have e2 : ((10 : Int64) * Int32.toInt64 x).toInt = 10 * x.toInt := by
    rw [l_mul (by rw [l10, Int32.toInt_toInt64]; omega) (by rw [l10, Int32.toInt_toInt64]; omega), l10, Int32.toInt_toInt64]
  have f1 : (J1 59 i + Int32.toInt64 (10 * x)).toInt = (J1 59 i).toInt + 10 * x.toInt := by
    rw [l_add (by rw [e1]; omega) (by rw [e1]; omega), e1]
  have f2 : (J2 104 i + (10 : Int64) * Int32.toInt64 x).toInt = (J2 104 i).toInt + 10 * x.toInt := by
    rw [l_add (by rw [e2]; omega) (by rw [e2]; omega), e2]
  have g1 := cmp_S (a := J1 58 i) (p := J1 59 i + Int32.toInt64 (10 * x)) (b := J1 58 j) (q := J1 59 j) ⟨a1, by omega, by omega, by omega⟩ ⟨b1, by omega, by omega, by omega⟩
  have g2 := held_S (a := J2 103 i) (p := J2 104 i + (10 : Int64) * Int32.toInt64 x) (b := J2 103 j) (q := J2 104 j) ⟨a5, by omega, by omega, by omega⟩ ⟨b5, by omega, by omega, by omega⟩
  rw [f1] at g1
  rw [f2, eqv_cS (k := 10 * x.toInt) a9 b9 a5 b5, ← g1] at g2
  have e0 : (0 : Int32).toInt = 0 := by decide
  unfold cmpC cmpM
  rw [Bool.eq_iff_iff, decide_eq_true_iff, Bool.not_eq_true', decide_eq_false_iff_not, Int32.lt_iff_toInt_lt, Int32.le_iff_toInt_le, g2, e0]
  omega
theorem ah_b {J1 J2 : gJ} {n : Nat} {x own mask : Int32} (hn : n ≤ 12) (h : NR n J1 J2) (hx : q_b x 0 20) (ho : ∀ i, n ≤ i → tb own i = false) (hm : ∀ i, n ≤ i → tb mask i = false) : b_set (fun i => tb own i && ahC J1 (10 * x) mask i 12) 12 = b_set (fun i => tb own i && ahM J2 ((10 : Int64) * Int32.toInt64 x) mask i n) n := by
  rw [b_set_le (a := n) hn (fun k hk _ => by rw [ho k hk, Bool.false_and])]
  refine b_set_cg fun i hi => ?_
  congr 1
  unfold ahC ahM
  rw [ball_le (a := n) hn (fun k hk _ => by rw [hm k hk]; rfl)]
  refine ball_cg fun j hj => ?_
  rw [cmp_b h hi hj hx]
/-! the masks -/
section MASKS
variable {I : gI} {n v : Nat}
def M_ot (I : gI) (v n : Nat) : Int32 := CT I v n &&& ((CT I v n &&& RG I n) ^^^ (-1))
def M_ow (I : gI) (v n s : Nat) : Int32 := M_ot I v n &&& SD I (nI s) n
def M_ag (I : gI) (v n s : Nat) : Int32 := M_ot I v n &&& (SD I (nI s) n ^^^ (-1))
theorem tb_ot (hn : n ≤ 12) {i : Nat} (hi : i < 32) : tb (M_ot I v n) i = (decide (i < n) && (cP I v n i && !rg I i)) := by
  unfold M_ot CT RG
  rw [tb_and, tb_xor, tb_and, tb_set (by omega), tb_set (by omega), tb_m1 i hi]
  by_cases q : i < n
  · rw [decide_eq_true q]
    cases cP I v n i <;> cases rg I i <;> rfl
  · rw [decide_eq_false q]
    rfl
theorem tb_ow (hn : n ≤ 12) {i s : Nat} (hi : i < 32) : tb (M_ow I v n s) i = (decide (i < n) && (cP I v n i && !rg I i && decide (sd I i = nI s))) := by
  unfold M_ow SD
  rw [tb_and, tb_ot hn hi, tb_set (by omega)]
  by_cases q : i < n
  · rw [decide_eq_true q]
    simp only [Bool.true_and]
  · rw [decide_eq_false q]
    rfl
theorem tb_ag (hn : n ≤ 12) {i s : Nat} (hi : i < 32) : tb (M_ag I v n s) i = (decide (i < n) && (cP I v n i && !rg I i && !decide (sd I i = nI s))) := by
  unfold M_ag SD
  rw [tb_and, tb_ot hn hi, tb_xor, tb_set (by omega), tb_m1 i hi]
  by_cases q : i < n
  · rw [decide_eq_true q]
    simp only [Bool.true_and, Bool.xor_true]
  · rw [decide_eq_false q]
    rfl
theorem ow_hi (hn : n ≤ 12) {s : Nat} (i : Nat) (h : n ≤ i) : tb (M_ow I v n s) i = false := by
  by_cases q : i < 32
  · rw [tb_ow hn q, decide_eq_false (by omega)]
    rfl
  · exact tb_hi _ (by omega)
theorem ag_hi (hn : n ≤ 12) {s : Nat} (i : Nat) (h : n ≤ i) : tb (M_ag I v n s) i = false := by
  by_cases q : i < 32
  · rw [tb_ag hn q, decide_eq_false (by omega)]
    rfl
  · exact tb_hi _ (by omega)
theorem sd_1 (hc : q_clay I n) {i s : Nat} (hi : i < n) (hs : s < 2) : decide (sd I i = nI s) = (if s = 0 then !decide (sd I i = 1) else decide (sd I i = 1)) := by
  match s, hs with
  | 0, _ => rcases sd01 hc hi with a | a <;> rw [a] <;> rfl
  | 1, _ => rfl
theorem own_m (hc : q_clay I n) {s : Nat} (hs : s < 2) : (CT I v n &&& (RG I n ^^^ (-1))) &&& (if nI s = 0 then (SD I 1 n ^^^ (-1)) else SD I 1 n) = M_ow I v n s := by
  have hn := hc.2.2.1
  apply tb_ext
  intro i hi
  rw [tb_ow hn hi, tb_and, tb_and, tb_xor, s01 hs]
  unfold CT RG SD
  rw [tb_set (by omega), tb_set (by omega), tb_m1 i hi]
  by_cases q : i < n
  · rw [decide_eq_true q, sd_1 hc q hs]
    by_cases z : s = 0
    · rw [if_pos z, if_pos z, tb_xor, tb_set (by omega), decide_eq_true q, tb_m1 i hi]
      simp only [Bool.true_and, Bool.xor_true]
    · rw [if_neg z, if_neg z, tb_set (by omega), decide_eq_true q]
      simp only [Bool.true_and, Bool.xor_true]
  · rw [decide_eq_false q]
    simp only [Bool.false_and]
theorem ag_m (hc : q_clay I n) {s : Nat} : (CT I v n &&& (RG I n ^^^ (-1))) &&& (M_ow I v n s ^^^ (-1)) = M_ag I v n s := by
  have hn := hc.2.2.1
  apply tb_ext
  intro i hi
  rw [tb_ag hn hi, tb_and, tb_and, tb_xor, tb_xor, tb_ow hn hi]
  unfold CT RG
  rw [tb_set (by omega), tb_set (by omega), tb_m1 i hi]
  by_cases q : i < n
  · rw [decide_eq_true q]
    cases cP I v n i <;> cases rg I i <;> cases decide (sd I i = nI s) <;> rfl
  · rw [decide_eq_false q]
    simp only [Bool.false_and]
theorem zero_m (hc : q_clay I n) : (CT I v n &&& RG I n) &&& (SD I 1 n ^^^ (-1)) = (CT I v n &&& RG I n) &&& SD I 0 n := by
  have hn := hc.2.2.1
  apply tb_ext
  intro i hi
  rw [tb_and, tb_and, tb_xor, tb_and, tb_and]
  unfold CT RG SD
  rw [tb_set (by omega), tb_set (by omega), tb_set (by omega), tb_set (by omega), tb_m1 i hi]
  by_cases q : i < n
  · have := sd_1 hc q (s := 0) (by omega)
    rw [if_pos rfl] at this
    rw [decide_eq_true q, show decide (sd I i = 0) = !decide (sd I i = 1) from this]
    simp only [Bool.true_and, Bool.xor_true]
  · rw [decide_eq_false q]
    simp only [Bool.false_and]
theorem both_m (hc : q_clay I n) : ((CT I v n &&& RG I n) &&& SD I 0 n) ||| ((CT I v n &&& RG I n) &&& SD I 1 n) = CT I v n &&& RG I n := by
  have hn := hc.2.2.1
  apply tb_ext
  intro i hi
  simp only [tb_or, tb_and]
  unfold CT RG SD
  rw [tb_set (by omega), tb_set (by omega), tb_set (by omega), tb_set (by omega)]
  by_cases q : i < n
  · have := sd_1 hc q (s := 0) (by omega)
    rw [if_pos rfl] at this
    rw [decide_eq_true q, show decide (sd I i = 0) = !decide (sd I i = 1) from this]
    simp only [Bool.true_and]
    cases cP I v n i <;> cases rg I i <;> cases decide (sd I i = 1) <;> rfl
  · rw [decide_eq_false q]
    simp only [Bool.false_and, Bool.or_self]
theorem low_ct (hn : n ≤ 12) : low (CT I v n) := low_set hn
theorem sub_t : ∀ c, c < 13 → ∀ d, d < 13 → (c ≤ d → nI c - nI d ≤ 0 ∧ -(nI c - nI d) = nI (d - c) ∧ 0 - (nI c - nI d) = nI (d - c)) ∧ (d < c → ¬ nI c - nI d ≤ 0 ∧ nI c - nI d = nI (c - d)) := by decide +kernel
theorem pay_b (hc : q_clay I n) (hr : q_rules I) (hv : v < 6) : ∃ P, f_X7_ringersThatPay (CT I v n &&& RG I n) (I (43 + 2 * v) 5) I = some P ∧ (∀ I2 : gI, I2 100 (8 * v + 5) = I 100 (8 * v + 5) → f_X10_findRingers (nI v) ((CT I v n &&& RG I n) &&& (SD I 1 n ^^^ (-1))) ((CT I v n &&& RG I n) &&& SD I 1 n) I2 = some (g_u I2 87 23 P)) ∧ low P ∧ ∀ i, tb P i = true → tb (CT I v n &&& RG I n) i = true := by
  have hn := hc.2.2.1
  have i5 : g_in (8 * nI v + 5) 48 = true := (ix8 v hv 5 (by omega)).1
  have j5 : (8 * nI v + 5).toNatClampNeg = 8 * v + 5 := (ix8 v hv 5 (by omega)).2
  obtain ⟨r1, r2⟩ := hr v hv 5 (by omega)
  rw [r1]
  have hq : q_hi 5 = 2 := by decide
  rw [hq] at r2
  obtain ⟨c, -, hc2, ec⟩ := nI_b (a := 0) (b := 2) r2 (by omega)
  obtain ⟨X, eX⟩ : ∃ X, X = CT I v n &&& RG I n := ⟨_, rfl⟩
  have hlX : low X := by rw [eX]; exact low_and (low_ct hn)
  have hz := zero_m (v := v) hc
  have hb := both_m (v := v) hc
  rw [← eX] at hz hb ⊢
  rw [hz]
  unfold f_X7_ringersThatPay
  rw [cs_side hc, cs_side hc]
  simp only [Option.bind_some]
  have hM : ∀ I2 : gI, I2 100 (8 * v + 5) = nI c → f_X10_findRingers (nI v) (X &&& SD I 0 n) (X &&& SD I 1 n) I2 = (if nI c = 0 then some (g_u I2 87 23 X) else if nI c = 2 then (f_X10_lastOf X 1).bind fun r => some (g_u I2 87 23 r) else if (f_J6_bitCount_0f7a4 (X &&& SD I 0 n) - f_J6_bitCount_0f7a4 (X &&& SD I 1 n)) ≤ 0 then (f_X10_lastOf (X &&& SD I 1 n) (0 - (f_J6_bitCount_0f7a4 (X &&& SD I 0 n) - f_J6_bitCount_0f7a4 (X &&& SD I 1 n)))).bind fun r => some (g_u I2 87 23 r) else (f_X10_lastOf (X &&& SD I 0 n) (f_J6_bitCount_0f7a4 (X &&& SD I 0 n) - f_J6_bitCount_0f7a4 (X &&& SD I 1 n))).bind fun r => some (g_u I2 87 23 r)) := by
    intro I2 h2
    unfold f_X10_findRingers f_X10_findRingers_82
    rw [i5, if_pos rfl, j5, h2, ones_m (low_and hlX), ones_m (low_and hlX), hb]
    simp only [Option.bind_some]
  rw [ec]
  match c, hc2 with
  | 0, _ =>
    refine ⟨X, by rw [if_pos (show nI 0 = 0 from rfl)], fun I2 h2 => ?_, hlX, fun i hi => hi⟩
    rw [hM I2 h2, if_pos (show nI 0 = 0 from rfl)]
  | 2, _ =>
    obtain ⟨r, l1, l2, l3, l4⟩ := last_v X (q := 1) (by omega)
    refine ⟨r, ?_, fun I2 h2 => ?_, l3, l4⟩
    · rw [if_neg (show ¬ nI 2 = 0 by decide), if_pos (show nI 2 = 2 from rfl), show (1 : Int32) = nI 1 from rfl, l1]
      rfl
    · rw [hM I2 h2, if_neg (show ¬ nI 2 = 0 by decide), if_pos (show nI 2 = 2 from rfl), show (1 : Int32) = nI 1 from rfl, l2]
      rfl
  | 1, _ =>
    obtain ⟨c1, k1, e1⟩ := bc_le (low_and (y := SD I 0 n) hlX)
    obtain ⟨c2, k2, e2⟩ := bc_le (low_and (y := SD I 1 n) hlX)
    rw [if_neg (show ¬ nI 1 = 0 by decide), if_neg (show ¬ nI 1 = 2 by decide)]
    rw [e1, e2] at hM ⊢
    obtain ⟨t1, t2⟩ := sub_t c1 (by omega) c2 (by omega)
    by_cases q : c1 ≤ c2
    · obtain ⟨u1, u2, u3⟩ := t1 q
      obtain ⟨r, l1, l2, l3, l4⟩ := last_v (X &&& SD I 1 n) (q := c2 - c1) (by omega)
      refine ⟨r, ?_, fun I2 h2 => ?_, l3, fun i hi => ?_⟩
      · rw [if_pos u1, u2, l1]
        rfl
      · rw [hM I2 h2, if_neg (show ¬ nI 1 = 0 by decide), if_neg (show ¬ nI 1 = 2 by decide), if_pos u1, u3, l2]
        rfl
      · have := l4 i hi
        rw [tb_and, Bool.and_eq_true] at this
        exact this.1
    · obtain ⟨u1, u2⟩ := t2 (by omega)
      obtain ⟨r, l1, l2, l3, l4⟩ := last_v (X &&& SD I 0 n) (q := c1 - c2) (by omega)
      refine ⟨r, ?_, fun I2 h2 => ?_, l3, fun i hi => ?_⟩
      · rw [if_neg u1, u2, l1]
        rfl
      · rw [hM I2 h2, if_neg (show ¬ nI 1 = 0 by decide), if_neg (show ¬ nI 1 = 2 by decide), if_neg u1, u2, l2]
        rfl
      · have := l4 i hi
        rw [tb_and, Bool.and_eq_true] at this
        exact this.1
end MASKS
