/-! rake, iron, knock, off -/
theorem k_rng (n : Nat) (x : Int32) : (∃ j, j < n ∧ x = nI j) ∨ ¬ (0 ≤ x.toInt ∧ x.toInt < n) := by
  by_cases h : 0 ≤ x.toInt ∧ x.toInt < n
  · exact Or.inl (nI_lt_of h.1 h.2)
  · exact Or.inr h
theorem nI_m1 {n : Nat} (h : n < 2 ^ 30) : (nI n - 1).toInt = (n : Int) - 1 := by
  have e : (nI n).toInt = n := nI_toInt (by omega)
  have e1 : (1 : Int32).toInt = 1 := by decide
  rw [t_sub (by omega) (by omega), e, e1]
theorem k_find1 {I : gI} {n j : Nat} (h : I 1 1 = nI n) (hn : n ≤ 12) (hj : j < n) : f_X1_find (nI j) I = some (some (3 + 3 * j)) := by
  unfold f_X1_find
  rw [w_in, h, nI_m1 (by omega), nI_toInt (by omega), gin_nI (by omega) (by omega), nI_clamp (by omega)]
  have e0 : (0 : Int32).toInt = 0 := by decide
  rw [decide_eq_true (by omega)]
  simp
theorem k_find0 {I : gI} {n : Nat} {x : Int32} (h : I 1 1 = nI n) (hn : n ≤ 12) (hx : ¬ (0 ≤ x.toInt ∧ x.toInt < n)) : f_X1_find x I = some none := by
  unfold f_X1_find
  have e0 : (0 : Int32).toInt = 0 := by decide
  rw [w_in, h, nI_m1 (by omega), decide_eq_false (by omega)]
  simp
theorem k_no1 {I : gI} {n j : Nat} (h : I 87 0 = nI n) (hn : n ≤ 12) (hj : j < n) : f_X10_noIron (nI j) I = false := by
  unfold f_X10_noIron
  have e0 : (0 : Int64).toInt = 0 := by decide
  rw [m_in, h, Int32.toInt_toInt64, Int32.toInt_toInt64, nI_m1 (by omega), nI_toInt (by omega), decide_eq_true (by omega)]
  simp
theorem k_no0 {I : gI} {n : Nat} {x : Int32} (h : I 87 0 = nI n) (hn : n ≤ 12) (hx : ¬ (0 ≤ x.toInt ∧ x.toInt < n)) : f_X10_noIron x I = true := by
  unfold f_X10_noIron
  have e0 : (0 : Int64).toInt = 0 := by decide
  rw [m_in, h, Int32.toInt_toInt64, Int32.toInt_toInt64, nI_m1 (by omega), decide_eq_false (by omega)]
  simp
theorem pl_c (x y : Int32) : f_X9_isPlace x y = decide ((-600 ≤ x.toInt ∧ x.toInt ≤ 600) ∧ (-600 ≤ y.toInt ∧ y.toInt ≤ 600)) := by
  unfold f_X9_isPlace
  rw [w_in, w_in]
  have e0 : (-600 : Int32).toInt = -600 := by decide
  have e1 : (600 : Int32).toInt = 600 := by decide
  rw [e0, e1]
  by_cases h1 : -600 ≤ x.toInt ∧ x.toInt ≤ 600 <;> by_cases h2 : -600 ≤ y.toInt ∧ y.toInt ≤ 600 <;> simp [h1, h2]
theorem pl_m (x y : Int32) : f_X10_isPlace x y = decide ((-600 ≤ x.toInt ∧ x.toInt ≤ 600) ∧ (-600 ≤ y.toInt ∧ y.toInt ≤ 600)) := by
  unfold f_X10_isPlace
  rw [m_in, m_in]
  have e0 : (-600 : Int64).toInt = -600 := by decide
  have e1 : (600 : Int64).toInt = 600 := by decide
  rw [e0, e1, Int32.toInt_toInt64, Int32.toInt_toInt64]
  by_cases h1 : -600 ≤ x.toInt ∧ x.toInt ≤ 600 <;> by_cases h2 : -600 ≤ y.toInt ∧ y.toInt ≤ 600 <;> simp [h1, h2]
theorem o_rake : op_rake Inv := by
  intro m I J h
  refine ⟨_, _, rfl, rfl, ?_, ?_⟩
  · obtain ⟨⟨n, h1, h2, -⟩, -⟩ := h
    show I 1 1 = g_u I 1 1 0 87 0
    rw [u_na (by omega), h1, h2]
  · refine h.clay (n := 0) ⟨?_, ?_, by omega, fun i hi => absurd hi (by omega)⟩ (fun a k q1 q2 => ?_) sj.rfl
    · show (g_u (g_u I 1 1 0) 87 0 0) 1 1 = nI 0
      rw [u_na (by omega), u_eq rfl rfl]
      rfl
    · show (g_u (g_u I 1 1 0) 87 0 0) 87 0 = nI 0
      rw [u_eq rfl rfl]
      rfl
    · show (g_u (g_u I 1 1 0) 87 0 0) a k = I a k
      rw [u_ap, if_neg (by unfold R_clay at q1; omega), u_ap, if_neg (by unfold R_clay at q1; omega)]
theorem mv_c (a : Nat) (x y : Int32) (I : gI) : f_X2_moveTo a x y I = some (g_u (g_u (g_u (g_u (g_u (g_u (g_u (g_u I a 1 x) a 2 y) (a + 1) 0 (-1)) (a + 2) 0 (-1)) (a + 1) 1 (-1)) (a + 2) 1 (-1)) (a + 1) 2 (-1)) (a + 2) 2 (-1)) := rfl
theorem fg_m {i : Nat} (hi : i < 12) (I : gI) : f_X10_forget (nI i) I = some (g_u (g_u (g_u I 96 (3 * i) 0) 96 (3 * i + 1) 0) 96 (3 * i + 2) 0) := by
  have h : ∀ i, i < 12 → ∀ k, k < 3 → g_in (3 * nI i + nI k) 36 = true ∧ (3 * nI i + nI k).toNatClampNeg = 3 * i + k := by decide +kernel
  have h0 := h i hi 0 (by omega)
  have h1 := h i hi 1 (by omega)
  have h2 := h i hi 2 (by omega)
  show f_X10_forget_2 (996 + 1 + 1 + 1 + 1) (nI i) (nI 0) I = _
  unfold f_X10_forget_2
  rw [if_neg (by decide), if_pos h0.1, h0.2]
  unfold f_X10_forget_2
  rw [show nI 0 + 1 = nI 1 from rfl, if_neg (by decide), if_pos h1.1, h1.2]
  unfold f_X10_forget_2
  rw [show nI 1 + 1 = nI 2 from rfl, if_neg (by decide), if_pos h2.1, h2.2]
  unfold f_X10_forget_2
  rw [if_pos (by decide)]
  rfl
theorem q01 {x : Int32} (h : q_b x 0 1) : x = 0 ∨ x = 1 := by
  obtain ⟨h1, h2⟩ := h
  have e0 : (0 : Int32).toInt = 0 := by decide
  have e1 : (1 : Int32).toInt = 1 := by decide
  by_cases h3 : x.toInt < 1
  · left
    apply Int32.toInt_inj.mp
    omega
  · right
    apply Int32.toInt_inj.mp
    omega
theorem o_off : op_off Inv := by
  intro m I J a1 h
  obtain ⟨⟨n, h1, h2, hn, h4⟩, -⟩ := id h
  rcases k_rng n a1 with ⟨j, hj, rfl⟩ | hx
  · have hq := (h4 j hj).1.2.2.2.2.2.2.2
    unfold f_X9_off
    rw [k_find1 h1 hn hj]
    show ∃ r1 r2, (if I (3 + 3 * j) 7 = 0 then some ((1 : Int32), g_u I (3 + 3 * j) 7 1) else some (-1003, I)) = some r1 ∧ _
    by_cases h0 : I (3 + 3 * j) 7 = 0
    · rw [if_pos h0]
      refine ⟨_, (1, g_u (g_u I (3 + 3 * j) 7 1) 95 j (1 &&& 1)), rfl, ?_, ?_⟩
      · dsimp only
        unfold f_X10_off
        rw [k_no1 (n := n) (by rw [u_na (by omega)]; exact h2) hn hj, gin_nI (by omega) (by omega), nI_clamp (by omega), u_na (by omega), ← hq, h0]
        rfl
      · refine ⟨rfl, h.clay (n := n) ⟨?_, ?_, hn, fun i hi => ?_⟩ (fun a k q1 q2 => ?_) sj.rfl⟩
        · show (g_u (g_u I (3 + 3 * j) 7 1) 95 j (1 &&& 1)) 1 1 = _
          rw [u_na (by omega), u_na (by omega)]
          exact h1
        · show (g_u (g_u I (3 + 3 * j) 7 1) 95 j (1 &&& 1)) 87 0 = _
          rw [u_na (by omega), u_na (by omega)]
          exact h2
        · by_cases e : i = j
          · subst e
            obtain ⟨g1, g2, g3, g4⟩ := h4 i hi
            show q_iron (g_u (g_u I (3 + 3 * i) 7 1) 95 i (1 &&& 1)) i
            unfold q_iron q_span f_X2_isRinger f_X2_square at *
            simp (disch := omega) only [u_eq, u_na, u_nk]
            refine ⟨⟨g1.1, g1.2.1, g1.2.2.1, g1.2.2.2.1, g1.2.2.2.2.1, g1.2.2.2.2.2.1, g1.2.2.2.2.2.2.1, by decide⟩, ⟨g2.1, g2.2.1, g2.2.2.1, g2.2.2.2.1, g2.2.2.2.2.1, g2.2.2.2.2.2.1, g2.2.2.2.2.2.2.1, by decide⟩, g3, g4⟩
          · refine (h4 i hi).cg fun a k q => ?_
            unfold R_iron at q
            show (g_u (g_u I (3 + 3 * j) 7 1) 95 j (1 &&& 1)) a k = _
            rw [u_ap, if_neg (by omega), u_ap, if_neg (by omega)]
        · unfold R_clay at q1
          show (g_u (g_u I (3 + 3 * j) 7 1) 95 j (1 &&& 1)) a k = _
          rw [u_ap, if_neg (by omega), u_ap, if_neg (by omega)]
    · rw [if_neg h0]
      refine ⟨_, (-1003, I), rfl, ?_, rfl, h⟩
      show f_X10_off (nI j) I = _
      unfold f_X10_off
      rw [k_no1 h2 hn hj, gin_nI (by omega) (by omega), nI_clamp (by omega), ← hq]
      simp [h0]
  · refine ⟨(-1001, I), (-1001, I), ?_, ?_, rfl, h⟩
    · unfold f_X9_off
      rw [k_find0 h1 hn hx]
      rfl
    · show f_X10_off a1 I = _
      unfold f_X10_off
      rw [k_no0 h2 hn hx]
      rfl
theorem o_knock : op_knock Inv := by
  intro m I J a1 x y h
  obtain ⟨⟨n, h1, h2, hn, h4⟩, -⟩ := id h
  rcases k_rng n a1 with ⟨j, hj, rfl⟩ | hx
  · have hq := (h4 j hj).1.2.2.2.2.2.2.2
    unfold f_X9_knock
    rw [k_find1 h1 hn hj]
    show ∃ r1 r2, (if f_X9_isPlace x y = true then (if I (3 + 3 * j) 7 = 0 then (f_X2_moveTo (3 + 3 * j) x y I).bind fun r => some ((1 : Int32), r) else some (-1003, I)) else some (-1002, I)) = some r1 ∧ _
    by_cases hp : (-600 ≤ x.toInt ∧ x.toInt ≤ 600) ∧ (-600 ≤ y.toInt ∧ y.toInt ≤ 600)
    · have hpc : f_X9_isPlace x y = true := by rw [pl_c]; exact decide_eq_true hp
      have hpm : f_X10_isPlace x y = true := by rw [pl_m]; exact decide_eq_true hp
      rw [if_pos hpc]
      by_cases h0 : I (3 + 3 * j) 7 = 0
      · rw [if_pos h0, mv_c]
        refine ⟨_, (1, g_u (g_u (g_u (g_u (g_u (g_u (g_u (g_u (g_u (g_u (g_u (g_u (g_u I (3 + 3 * j) 1 x) (3 + 3 * j) 2 y) (3 + 3 * j + 1) 0 (-1)) (3 + 3 * j + 2) 0 (-1)) (3 + 3 * j + 1) 1 (-1)) (3 + 3 * j + 2) 1 (-1)) (3 + 3 * j + 1) 2 (-1)) (3 + 3 * j + 2) 2 (-1)) 89 j x) 90 j y) 96 (3 * j) 0) 96 (3 * j + 1) 0) 96 (3 * j + 2) 0), rfl, ?_, ?_⟩
        · dsimp only
          unfold f_X10_knock
          rw [k_no1 (n := n) (by simp (disch := omega) only [u_na]; exact h2) hn hj, hpm, gin_nI (by omega) (by omega), nI_clamp (by omega), fg_m (by omega)]
          simp (disch := omega) only [u_na]
          rw [← hq, h0]
          rfl
        · refine ⟨rfl, h.clay (n := n) ⟨?_, ?_, hn, fun i hi => ?_⟩ (fun a k q1 q2 => ?_) sj.rfl⟩
          · simp (disch := omega) only [u_na]
            exact h1
          · simp (disch := omega) only [u_na]
            exact h2
          · by_cases e : i = j
            · subst e
              obtain ⟨g1, g2, g3, g4⟩ := h4 i hi
              refine ⟨?_, ?_, fun k hk => Or.inl ?_, fun hx => ?_⟩
              · simp (disch := omega) only [u_eq, u_na, u_nk]
                exact ⟨g1.1, trivial, trivial, g1.2.2.2⟩
              · simp (disch := omega) only [u_eq, u_na, u_nk]
                exact ⟨g2.1, hp.1, hp.2, g2.2.2.2⟩
              · match k, hk with
                | 0, _ => constructor <;> simp (disch := omega) only [u_eq, u_na, u_nk]
                | 1, _ => constructor <;> simp (disch := omega) only [u_eq, u_na, u_nk]
                | 2, _ => constructor <;> simp (disch := omega) only [u_eq, u_na, u_nk]
                | q + 3, hk => omega
              · exfalso
                obtain ⟨k, hk, hk1⟩ := hx
                match k, hk with
                | 0, _ => simp (disch := omega) only [u_eq, u_na, u_nk] at hk1; exact absurd hk1 (by decide)
                | 1, _ => simp (disch := omega) only [u_eq, u_na, u_nk] at hk1; exact absurd hk1 (by decide)
                | 2, _ => simp (disch := omega) only [u_eq, u_na, u_nk] at hk1; exact absurd hk1 (by decide)
                | q + 3, hk => omega
            · refine (h4 i hi).cg fun a k q => ?_
              unfold R_iron at q
              dsimp only
              repeat rw [u_ap, if_neg (by omega)]
          · unfold R_clay at q1
            dsimp only
            repeat rw [u_ap, if_neg (by omega)]
      · rw [if_neg h0]
        refine ⟨_, (-1003, I), rfl, ?_, rfl, h⟩
        show f_X10_knock (nI j) x y I = _
        unfold f_X10_knock
        rw [k_no1 h2 hn hj, hpm, gin_nI (by omega) (by omega), nI_clamp (by omega), ← hq]
        simp [h0]
    · have hpc : f_X9_isPlace x y = false := by rw [pl_c]; exact decide_eq_false hp
      have hpm : f_X10_isPlace x y = false := by rw [pl_m]; exact decide_eq_false hp
      rw [hpc]
      refine ⟨_, (-1002, I), rfl, ?_, rfl, h⟩
      show f_X10_knock (nI j) x y I = _
      unfold f_X10_knock
      rw [k_no1 h2 hn hj, hpm]
      rfl
  · refine ⟨(-1001, I), (-1001, I), ?_, ?_, rfl, h⟩
    · unfold f_X9_knock
      rw [k_find0 h1 hn hx]
      rfl
    · show f_X10_knock a1 x y I = _
      unfold f_X10_knock
      rw [k_no0 h2 hn hx]
      rfl
theorem lay_c (a : Nat) (x1 x2 x3 x4 x5 x6 x7 : Int32) (I : gI) (h : x7 = 0 ∨ x7 = 1) : f_X2_lay a x1 x2 x3 x4 x5 x6 x7 I = some (g_u (g_u (g_u (g_u (g_u (g_u (g_u (g_u (g_u (g_u (g_u (g_u (g_u (g_u I a 0 x1) a 3 x4) a 4 x5) a 5 x6) a 6 x7) a 7 0) a 1 x2) a 2 x3) (a + 1) 0 (-1)) (a + 2) 0 (-1)) (a + 1) 1 (-1)) (a + 2) 1 (-1)) (a + 1) 2 (-1)) (a + 2) 2 (-1)) := by
  unfold f_X2_lay
  rw [if_pos h, mv_c]
  rfl
theorem iron_c {a1 a2 a3 a4 a5 a6 a7 : Int32} {I : gI} {n : Nat} (h1 : I 1 1 = nI n) (hn : n ≤ 12) (h7 : a7 = 0 ∨ a7 = 1) : f_X9_iron a1 a2 a3 a4 a5 a6 a7 I = if q_b a1 0 1 ∧ ((-600 ≤ a2.toInt ∧ a2.toInt ≤ 600) ∧ (-600 ≤ a3.toInt ∧ a3.toInt ≤ 600)) ∧ q_b a4 2 60 ∧ (1 ≤ a5.toInt ∧ a5.toInt ≤ (a4 - 1).toInt) ∧ q_b a6 0 9 then (if n < 12 then some (nI n, g_u (g_u (g_u (g_u (g_u (g_u (g_u (g_u (g_u (g_u (g_u (g_u (g_u (g_u (g_u I (3 + 3 * n) 0 a1) (3 + 3 * n) 3 a4) (3 + 3 * n) 4 a5) (3 + 3 * n) 5 a6) (3 + 3 * n) 6 a7) (3 + 3 * n) 7 0) (3 + 3 * n) 1 a2) (3 + 3 * n) 2 a3) (3 + 3 * n + 1) 0 (-1)) (3 + 3 * n + 2) 0 (-1)) (3 + 3 * n + 1) 1 (-1)) (3 + 3 * n + 2) 1 (-1)) (3 + 3 * n + 1) 2 (-1)) (3 + 3 * n + 2) 2 (-1)) 1 1 (nI (n + 1))) else some (-1004, I)) else some (-1002, I) := by
  unfold f_X9_iron
  rw [w_in, pl_c, w_in, w_in, w_in, h1]
  have e0 : (0 : Int32).toInt = 0 := by decide
  have e1 : (1 : Int32).toInt = 1 := by decide
  have e2 : (2 : Int32).toInt = 2 := by decide
  have e3 : (60 : Int32).toInt = 60 := by decide
  have e4 : (9 : Int32).toInt = 9 := by decide
  rw [e0, e1, e2, e3, e4]
  by_cases c1 : 0 ≤ a1.toInt ∧ a1.toInt ≤ 1
  · by_cases c2 : (-600 ≤ a2.toInt ∧ a2.toInt ≤ 600) ∧ (-600 ≤ a3.toInt ∧ a3.toInt ≤ 600)
    · by_cases c3 : 2 ≤ a4.toInt ∧ a4.toInt ≤ 60
      · by_cases c4 : 1 ≤ a5.toInt ∧ a5.toInt ≤ (a4 - 1).toInt
        · by_cases c5 : 0 ≤ a6.toInt ∧ a6.toInt ≤ 9
          · rw [if_pos (c := q_b a1 0 1 ∧ _) ⟨c1, c2, c3, c4, c5⟩, decide_eq_true c1, decide_eq_true c2, decide_eq_true c3, decide_eq_true c4, decide_eq_true c5]
            by_cases c6 : n < 12
            · rw [if_pos c6]
              have c7 : nI n < 12 := nI_lt (b := 12) c6 (by omega)
              simp only [c7, gin_nI c6 (by omega), if_true, Bool.true_eq_false, if_false, nI_clamp (show n < 2 ^ 31 by omega), lay_c _ _ _ _ _ _ _ _ _ h7]
              simp (disch := omega) only [Option.bind_some, u_eq, u_na, u_nk, h1, nI_1, nI_pred]
            · rw [if_neg c6]
              have c7 : ¬ nI n < 12 := nI_nlt (b := 12) (by omega) (by omega)
              simp [c7]
          · rw [if_neg (c := q_b a1 0 1 ∧ _) (fun q => c5 q.2.2.2.2), decide_eq_true c1, decide_eq_true c2, decide_eq_true c3, decide_eq_true c4, decide_eq_false c5]
            rfl
        · rw [if_neg (c := q_b a1 0 1 ∧ _) (fun q => c4 q.2.2.2.1), decide_eq_true c1, decide_eq_true c2, decide_eq_true c3, decide_eq_false c4]
          rfl
      · rw [if_neg (c := q_b a1 0 1 ∧ _) (fun q => c3 q.2.2.1), decide_eq_true c1, decide_eq_true c2, decide_eq_false c3]
        rfl
    · rw [if_neg (c := q_b a1 0 1 ∧ _) (fun q => c2 q.2.1), decide_eq_true c1, decide_eq_false c2]
      rfl
  · rw [if_neg (c := q_b a1 0 1 ∧ _) (fun q => c1 q.1), decide_eq_false c1]
    rfl
def g_w8 (I : gI) (a : Nat) (x : Int32) : gI := g_u I a (I 87 0).toNatClampNeg x
theorem g_w8_86 {I : gI} {a : Nat} {x : Int32} (h : 87 ≠ a) : g_w8 I a x 87 0 = I 87 0 := u_na h
def f_iron_in (x1 x2 x3 x4 x5 x6 x7 : Int32) (I : gI) : Option (Int32 × gI) :=
  if g_in (I 87 0) 12 = true then
    if g_in ((g_w8 I 88 x1) 87 0) 12 = true then
      if g_in ((g_w8 (g_w8 I 88 x1) 89 x2) 87 0) 12 = true then
        if g_in ((g_w8 (g_w8 (g_w8 I 88 x1) 89 x2) 90 x3) 87 0) 12 = true then
          if g_in ((g_w8 (g_w8 (g_w8 (g_w8 I 88 x1) 89 x2) 90 x3) 91 x4) 87 0) 12 = true then
            if g_in ((g_w8 (g_w8 (g_w8 (g_w8 (g_w8 I 88 x1) 89 x2) 90 x3) 91 x4) 92 x5) 87 0) 12 = true then
              if g_in ((g_w8 (g_w8 (g_w8 (g_w8 (g_w8 (g_w8 I 88 x1) 89 x2) 90 x3) 91 x4) 92 x5) 93 x6) 87 0) 12 = true then
                if g_in ((g_w8 (g_w8 (g_w8 (g_w8 (g_w8 (g_w8 (g_w8 I 88 x1) 89 x2) 90 x3) 91 x4) 92 x5) 93 x6) 94 (x7 &&& 1)) 87 0) 12 = true then
                  (f_X10_forget ((g_w8 (g_w8 (g_w8 (g_w8 (g_w8 (g_w8 (g_w8 (g_w8 I 88 x1) 89 x2) 90 x3) 91 x4) 92 x5) 93 x6) 94 (x7 &&& 1)) 95 (0 &&& 1)) 87 0) (g_w8 (g_w8 (g_w8 (g_w8 (g_w8 (g_w8 (g_w8 (g_w8 I 88 x1) 89 x2) 90 x3) 91 x4) 92 x5) 93 x6) 94 (x7 &&& 1)) 95 (0 &&& 1))).bind fun r15_ =>
                    some (((((g_u r15_ 87 0 ((r15_ 87 0) + 1)) 87 0) - 1), (g_u r15_ 87 0 ((r15_ 87 0) + 1))))
                else none
              else none
            else none
          else none
        else none
      else none
    else none
  else none
theorem iron_m0 (x1 x2 x3 x4 x5 x6 x7 : Int32) (I : gI) : f_X10_iron x1 x2 x3 x4 x5 x6 x7 I =
  if (f_X10_in (Int32.toInt64 x1) (0 : Int64) (1 : Int64)) = false then
    some (((-1002), I))
  else
    if (f_X10_isPlace x2 x3) = false then
      some (((-1002), I))
    else
      if (f_X10_in (Int32.toInt64 x4) (2 : Int64) (60 : Int64)) = false then
        some (((-1002), I))
      else
        if (f_X10_in (Int32.toInt64 x5) (1 : Int64) (Int32.toInt64 (x4 - 1))) = false then
          some (((-1002), I))
        else
          if (f_X10_in (Int32.toInt64 x6) (0 : Int64) (9 : Int64)) = true then
            if (I 87 0) = 12 then
              some (((-1004), I))
            else f_iron_in x1 x2 x3 x4 x5 x6 x7 I
          else some (((-1002), I)) := rfl
theorem iron_in {x1 x2 x3 x4 x5 x6 x7 : Int32} {I : gI} {n : Nat} (h1 : I 87 0 = nI n) (c6 : n < 12) (h71 : x7 &&& 1 = x7) : f_iron_in x1 x2 x3 x4 x5 x6 x7 I = some (nI n, g_u (g_u (g_u (g_u (g_u (g_u (g_u (g_u (g_u (g_u (g_u (g_u I 88 n x1) 89 n x2) 90 n x3) 91 n x4) 92 n x5) 93 n x6) 94 n x7) 95 n 0) 96 (3 * n) 0) 96 (3 * n + 1) 0) 96 (3 * n + 2) 0) 87 0 (nI (n + 1))) := by
  unfold f_iron_in
  have e : ∀ (I : gI) (a : Nat) (x : Int32), I 87 0 = nI n → g_w8 I a x = g_u I a n x := fun I a x h => by
    unfold g_w8
    rw [h, nI_clamp (by omega)]
  simp (disch := omega) only [g_w8_86, h1, gin_nI c6 (show 12 < 2 ^ 31 by omega), if_true, fg_m c6, h71, show (0 : Int32) &&& 1 = 0 by decide]
  rw [e I 88 x1 h1]
  rw [e _ 89 x2 (by rw [u_na (by omega), h1])]
  rw [e _ 90 x3 (by rw [u_na (by omega), u_na (by omega), h1])]
  rw [e _ 91 x4 (by rw [u_na (by omega), u_na (by omega), u_na (by omega), h1])]
  rw [e _ 92 x5 (by rw [u_na (by omega), u_na (by omega), u_na (by omega), u_na (by omega), h1])]
  rw [e _ 93 x6 (by rw [u_na (by omega), u_na (by omega), u_na (by omega), u_na (by omega), u_na (by omega), h1])]
  rw [e _ 94 x7 (by rw [u_na (by omega), u_na (by omega), u_na (by omega), u_na (by omega), u_na (by omega), u_na (by omega), h1])]
  rw [e _ 95 0 (by rw [u_na (by omega), u_na (by omega), u_na (by omega), u_na (by omega), u_na (by omega), u_na (by omega), u_na (by omega), h1])]
  simp (disch := omega) only [Option.bind_some, u_eq, u_na, h1, nI_1, nI_pred]
set_option maxRecDepth 4000 in
theorem iron_m {a1 a2 a3 a4 a5 a6 a7 : Int32} {I : gI} {n : Nat} (h1 : I 87 0 = nI n) (hn : n ≤ 12) (h7 : a7 = 0 ∨ a7 = 1) : f_X10_iron a1 a2 a3 a4 a5 a6 a7 I = if q_b a1 0 1 ∧ ((-600 ≤ a2.toInt ∧ a2.toInt ≤ 600) ∧ (-600 ≤ a3.toInt ∧ a3.toInt ≤ 600)) ∧ q_b a4 2 60 ∧ (1 ≤ a5.toInt ∧ a5.toInt ≤ (a4 - 1).toInt) ∧ q_b a6 0 9 then (if n < 12 then some (nI n, g_u (g_u (g_u (g_u (g_u (g_u (g_u (g_u (g_u (g_u (g_u (g_u I 88 n a1) 89 n a2) 90 n a3) 91 n a4) 92 n a5) 93 n a6) 94 n a7) 95 n 0) 96 (3 * n) 0) 96 (3 * n + 1) 0) 96 (3 * n + 2) 0) 87 0 (nI (n + 1))) else some (-1004, I)) else some (-1002, I) := by
  have h71 : a7 &&& 1 = a7 := by rcases h7 with rfl | rfl <;> decide
  rw [iron_m0, m_in, pl_m, m_in, m_in, m_in, h1]
  simp only [Int32.toInt_toInt64]
  have e0 : (0 : Int64).toInt = 0 := by decide
  have e1 : (1 : Int64).toInt = 1 := by decide
  have e2 : (2 : Int64).toInt = 2 := by decide
  have e3 : (60 : Int64).toInt = 60 := by decide
  have e4 : (9 : Int64).toInt = 9 := by decide
  rw [e0, e1, e2, e3, e4]
  by_cases c1 : 0 ≤ a1.toInt ∧ a1.toInt ≤ 1
  · by_cases c2 : (-600 ≤ a2.toInt ∧ a2.toInt ≤ 600) ∧ (-600 ≤ a3.toInt ∧ a3.toInt ≤ 600)
    · by_cases c3 : 2 ≤ a4.toInt ∧ a4.toInt ≤ 60
      · by_cases c4 : 1 ≤ a5.toInt ∧ a5.toInt ≤ (a4 - 1).toInt
        · by_cases c5 : 0 ≤ a6.toInt ∧ a6.toInt ≤ 9
          · rw [if_pos (c := q_b a1 0 1 ∧ _) ⟨c1, c2, c3, c4, c5⟩, decide_eq_true c1, decide_eq_true c2, decide_eq_true c3, decide_eq_true c4, decide_eq_true c5]
            by_cases c6 : n < 12
            · rw [if_pos c6]
              have c7 : ¬ nI n = 12 := fun q => absurd ((nI_eq (b := 12) (by omega) (by omega)).mp q) (by omega)
              simp only [c7, if_true, Bool.true_eq_false, if_false]
              exact iron_in h1 c6 h71
            · rw [if_neg c6]
              have c7 : nI n = 12 := by rw [show n = 12 by omega]; rfl
              simp [c7]
          · rw [if_neg (c := q_b a1 0 1 ∧ _) (fun q => c5 q.2.2.2.2), decide_eq_true c1, decide_eq_true c2, decide_eq_true c3, decide_eq_true c4, decide_eq_false c5]
            rfl
        · rw [if_neg (c := q_b a1 0 1 ∧ _) (fun q => c4 q.2.2.2.1), decide_eq_true c1, decide_eq_true c2, decide_eq_true c3, decide_eq_false c4]
          rfl
      · rw [if_neg (c := q_b a1 0 1 ∧ _) (fun q => c3 q.2.2.1), decide_eq_true c1, decide_eq_true c2, decide_eq_false c3]
        rfl
    · rw [if_neg (c := q_b a1 0 1 ∧ _) (fun q => c2 q.2.1), decide_eq_true c1, decide_eq_false c2]
      rfl
  · rw [if_neg (c := q_b a1 0 1 ∧ _) (fun q => c1 q.1), decide_eq_false c1]
    rfl
set_option maxRecDepth 4000 in
theorem o_iron : op_iron Inv := by
  intro m I J a1 a2 a3 a4 a5 a6 a7 h h7
  obtain ⟨⟨n, h1, h2, hn, h4⟩, -⟩ := id h
  rw [iron_c h1 hn h7]
  by_cases c : q_b a1 0 1 ∧ ((-600 ≤ a2.toInt ∧ a2.toInt ≤ 600) ∧ (-600 ≤ a3.toInt ∧ a3.toInt ≤ 600)) ∧ q_b a4 2 60 ∧ (1 ≤ a5.toInt ∧ a5.toInt ≤ (a4 - 1).toInt) ∧ q_b a6 0 9
  · rw [if_pos c]
    by_cases c6 : n < 12
    · rw [if_pos c6]
      refine ⟨_, (nI n, g_u (g_u (g_u (g_u (g_u (g_u (g_u (g_u (g_u (g_u (g_u (g_u (g_u (g_u (g_u (g_u (g_u (g_u (g_u (g_u (g_u (g_u (g_u (g_u (g_u (g_u (g_u I (3 + 3 * n) 0 a1) (3 + 3 * n) 3 a4) (3 + 3 * n) 4 a5) (3 + 3 * n) 5 a6) (3 + 3 * n) 6 a7) (3 + 3 * n) 7 0) (3 + 3 * n) 1 a2) (3 + 3 * n) 2 a3) (3 + 3 * n + 1) 0 (-1)) (3 + 3 * n + 2) 0 (-1)) (3 + 3 * n + 1) 1 (-1)) (3 + 3 * n + 2) 1 (-1)) (3 + 3 * n + 1) 2 (-1)) (3 + 3 * n + 2) 2 (-1)) 1 1 (nI (n + 1))) 88 n a1) 89 n a2) 90 n a3) 91 n a4) 92 n a5) 93 n a6) 94 n a7) 95 n 0) 96 (3 * n) 0) 96 (3 * n + 1) 0) 96 (3 * n + 2) 0) 87 0 (nI (n + 1))), rfl, ?_, ?_⟩
      · dsimp only
        rw [iron_m (n := n) (by simp (disch := omega) only [u_na]; exact h2) hn h7, if_pos c, if_pos c6]
      · dsimp only
        refine ⟨rfl, h.clay (n := n + 1) ⟨?_, ?_, by omega, fun i hi => ?_⟩ (fun a k q1 q2 => ?_) sj.rfl⟩
        · simp (disch := omega) only [u_eq, u_na, u_nk]
        · simp (disch := omega) only [u_eq, u_na, u_nk]
        · by_cases e : i = n
          · subst e
            obtain ⟨c1, c2, c3, c4, c5⟩ := c
            have e1 : (1 : Int32).toInt = 1 := by decide
            have c4' : a5.toInt ≤ a4.toInt - 1 := by
              have := c4.2
              rw [t_sub (by omega) (by omega)] at this
              omega
            refine ⟨?_, ?_, fun k hk => Or.inl ?_, fun hx => ?_⟩
            · simp (disch := omega) only [u_eq, u_na, u_nk]
              exact ⟨trivial, trivial, trivial, trivial, trivial, trivial, trivial, trivial⟩
            · simp (disch := omega) only [u_eq, u_na, u_nk]
              refine ⟨c1, c2.1, c2.2, c3, ⟨c4.1, by omega⟩, c5, ?_, by decide⟩
              rcases h7 with rfl | rfl <;> decide
            · match k, hk with
              | 0, _ => constructor <;> simp (disch := omega) only [u_eq, u_na, u_nk]
              | 1, _ => constructor <;> simp (disch := omega) only [u_eq, u_na, u_nk]
              | 2, _ => constructor <;> simp (disch := omega) only [u_eq, u_na, u_nk]
              | q + 3, hk => omega
            · exfalso
              obtain ⟨k, hk, hk1⟩ := hx
              match k, hk with
              | 0, _ => simp (disch := omega) only [u_eq, u_na, u_nk] at hk1; exact absurd hk1 (by decide)
              | 1, _ => simp (disch := omega) only [u_eq, u_na, u_nk] at hk1; exact absurd hk1 (by decide)
              | 2, _ => simp (disch := omega) only [u_eq, u_na, u_nk] at hk1; exact absurd hk1 (by decide)
              | q + 3, hk => omega
          · refine (h4 i (by omega)).cg fun a k q => ?_
            unfold R_iron at q
            repeat rw [u_ap, if_neg (by omega)]
        · unfold R_clay at q1
          repeat rw [u_ap, if_neg (by omega)]
    · rw [if_neg c6]
      refine ⟨_, (-1004, I), rfl, ?_, rfl, h⟩
      dsimp only
      rw [iron_m h2 hn h7, if_pos c, if_neg c6]
  · rw [if_neg c]
    refine ⟨_, (-1002, I), rfl, ?_, rfl, h⟩
    dsimp only
    rw [iron_m h2 hn h7, if_neg c]
