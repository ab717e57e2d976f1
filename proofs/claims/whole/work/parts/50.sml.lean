/-! match, says, fault, act, feed -/
theorem vil_c (x : Int32) : f_X9_isVillage x = decide (0 ≤ x.toInt ∧ x.toInt ≤ 5) := by
  unfold f_X9_isVillage
  rw [w_in]
  rfl
theorem vil_m (x : Int32) : f_X10_isVillage x = decide (0 ≤ x.toInt ∧ x.toInt ≤ 5) := by
  unfold f_X10_isVillage
  rw [m_in, Int32.toInt_toInt64]
  rfl
theorem o_fault : op_fault Inv := by
  intro m I J h
  obtain ⟨-, ⟨t, -, -, -, h4, -⟩, -⟩ := id h
  exact ⟨_, _, rfl, rfl, h4, h⟩
theorem o_says : op_says Inv := by
  intro m I J v w h
  obtain ⟨-, -, h3, -⟩ := id h
  have H : ∀ {x y : Option Int32}, (∃ r, x = some r) → x = y → ∃ r1 r2, x = some r1 ∧ y = some r2 ∧ r1 = r2 ∧ Inv m I J := fun ⟨r, hr⟩ he => ⟨r, r, hr, he ▸ hr, rfl, h⟩
  have e0 : (0 : Int32).toInt = 0 := by decide
  have e7 : (7 : Int32).toInt = 7 := by decide
  have f0 : (0 : Int64).toInt = 0 := by decide
  have f7 : (7 : Int64).toInt = 7 := by decide
  unfold f_X9_says f_X10_says
  rw [vil_c, vil_m, w_in, m_in, Int32.toInt_toInt64, e0, e7, f0, f7]
  by_cases c1 : 0 ≤ v.toInt ∧ v.toInt ≤ 5
  · rw [decide_eq_true c1]
    simp only [if_true]
    by_cases c2 : 0 ≤ w.toInt ∧ w.toInt ≤ 7
    · rw [decide_eq_true c2]
      obtain ⟨j, hj, rfl⟩ := nI_lt_of (x := v) (n := 6) c1.1 (by omega)
      obtain ⟨k, hk, rfl⟩ := nI_lt_of (x := w) (n := 8) c2.1 (by omega)
      obtain ⟨x1, x2⟩ := ix8 j hj k hk
      rw [x1, x2, gin_nI hj (by omega), gin_nI hk (by omega), nI_clamp (by omega), nI_clamp (by omega)]
      simp only [if_true, if_false, Bool.true_eq_false]
      refine H ⟨_, rfl⟩ (congrArg some ?_)
      rw [show 42 + 2 * j + 1 = 43 + 2 * j by omega]
      exact (h3 j hj k hk).1
    · rw [decide_eq_false c2]
      exact H ⟨_, rfl⟩ rfl
  · rw [decide_eq_false c1]
    exact H ⟨_, rfl⟩ rfl
def g_w32 (I : gI) (a : Nat) (x : Int32) : gI := g_u I a (I 87 32).toNatClampNeg x
theorem g_w32_86 {I : gI} {a : Nat} {x : Int32} (h : 87 ≠ a) : g_w32 I a x 87 32 = I 87 32 := u_na h
def f_match_in (x1 x2 x3 : Int32) (I : gI) : Option (Int32 × gI) :=
  if g_in (I 87 32) 24 = true then
    if g_in ((g_w32 I 108 x1) 87 32) 24 = true then
      if g_in ((g_w32 (g_w32 I 108 x1) 109 x2) 87 32) 24 = true then
        if g_in ((g_w32 (g_w32 (g_w32 I 108 x1) 109 x2) 110 x3) 87 32) 24 = true then
          if g_in ((g_w32 (g_w32 (g_w32 (g_w32 I 108 x1) 109 x2) 110 x3) 111 (0 &&& 1)) 87 32) 24 = true then
            some (((((g_u (g_w32 (g_w32 (g_w32 (g_w32 (g_w32 I 108 x1) 109 x2) 110 x3) 111 (0 &&& 1)) 112 0) 87 32 (((g_w32 (g_w32 (g_w32 (g_w32 (g_w32 I 108 x1) 109 x2) 110 x3) 111 (0 &&& 1)) 112 0) 87 32) + 1)) 87 32) - 1), (g_u (g_w32 (g_w32 (g_w32 (g_w32 (g_w32 I 108 x1) 109 x2) 110 x3) 111 (0 &&& 1)) 112 0) 87 32 (((g_w32 (g_w32 (g_w32 (g_w32 (g_w32 I 108 x1) 109 x2) 110 x3) 111 (0 &&& 1)) 112 0) 87 32) + 1))))
          else none
        else none
      else none
    else none
  else none
theorem match_m0 (x1 x2 x3 : Int32) (I : gI) : f_X10_match x1 x2 x3 I =
  if (f_X10_isVillage x1) = false then
    some (((-1001), I))
  else
    if (f_X10_isVillage x2) = true then
      if (f_X10_in (Int32.toInt64 x3) (0 : Int64) (2 : Int64)) = false then
        some (((-1002), I))
      else
        if x1 = x2 then
          some (((-1002), I))
        else
          if (I 87 32) = 24 then
            some (((-1004), I))
          else f_match_in x1 x2 x3 I
    else
      some (((-1001), I)) := rfl
theorem match_in {x1 x2 x3 : Int32} {I : gI} {n : Nat} (h1 : I 87 32 = nI n) (c6 : n < 24) : f_match_in x1 x2 x3 I = some (nI n, g_u (g_u (g_u (g_u (g_u (g_u I 108 n x1) 109 n x2) 110 n x3) 111 n 0) 112 n 0) 87 32 (nI (n + 1))) := by
  unfold f_match_in
  have e : ∀ (I : gI) (a : Nat) (x : Int32), I 87 32 = nI n → g_w32 I a x = g_u I a n x := fun I a x h => by
    unfold g_w32
    rw [h, nI_clamp (by omega)]
  simp (disch := omega) only [g_w32_86, h1, gin_nI c6 (show 24 < 2 ^ 31 by omega), if_true, show (0 : Int32) &&& 1 = 0 by decide]
  rw [e I 108 x1 h1]
  rw [e _ 109 x2 (by rw [u_na (by omega), h1])]
  rw [e _ 110 x3 (by rw [u_na (by omega), u_na (by omega), h1])]
  rw [e _ 111 0 (by rw [u_na (by omega), u_na (by omega), u_na (by omega), h1])]
  rw [e _ 112 0 (by rw [u_na (by omega), u_na (by omega), u_na (by omega), u_na (by omega), h1])]
  simp (disch := omega) only [u_eq, u_na, h1, nI_1, nI_pred]
theorem o_match : op_match Inv := by
  intro m I J a1 a2 a3 h
  obtain ⟨-, -, -, -, -, ⟨hm, g1, g2, h6⟩, hfr⟩ := id h
  have side : g_side m I J := ⟨hm, by rw [g1, nI_clamp (by omega)], by rw [g1]; exact gin_nI (by omega) (by omega), hfr⟩
  refine ⟨side, ?_⟩
  have e0 : (0 : Int32).toInt = 0 := by decide
  have e2 : (2 : Int32).toInt = 2 := by decide
  have f0 : (0 : Int64).toInt = 0 := by decide
  have f2 : (2 : Int64).toInt = 2 := by decide
  have hF : ∀ I' : gI, f_X10_match a1 a2 a3 I' = if 0 ≤ a1.toInt ∧ a1.toInt ≤ 5 then (if 0 ≤ a2.toInt ∧ a2.toInt ≤ 5 then (if 0 ≤ a3.toInt ∧ a3.toInt ≤ 2 then (if a1 = a2 then some (-1002, I') else if I' 87 32 = 24 then some (-1004, I') else f_match_in a1 a2 a3 I') else some (-1002, I')) else some (-1001, I')) else some (-1001, I') := by
    intro I'
    rw [match_m0, vil_m, vil_m, m_in, Int32.toInt_toInt64, f0, f2]
    by_cases c1 : 0 ≤ a1.toInt ∧ a1.toInt ≤ 5 <;> by_cases c2 : 0 ≤ a2.toInt ∧ a2.toInt ≤ 5 <;> by_cases c3 : 0 ≤ a3.toInt ∧ a3.toInt ≤ 2 <;> simp [c1, c2, c3]
  unfold f_X9_match
  rw [vil_c, vil_c, w_in, e0, e2, g1]
  by_cases c1 : 0 ≤ a1.toInt ∧ a1.toInt ≤ 5
  · by_cases c2 : 0 ≤ a2.toInt ∧ a2.toInt ≤ 5
    · by_cases c3 : 0 ≤ a3.toInt ∧ a3.toInt ≤ 2
      · by_cases c4 : a1 = a2
        · simp only [decide_eq_true c1, decide_eq_true c2, decide_eq_true c3, c4, Bool.true_eq_false, or_self, false_or, or_true, if_false, if_true]
          refine ⟨(-1002, I), ?_, rfl, h⟩
          have := hF I
          rw [c4] at this c1
          rw [this, if_pos c1, if_pos c1, if_pos c3, if_pos rfl]
        · by_cases c5 : m < 24
          · have c6 : nI m < 24 := nI_lt (b := 24) c5 (by omega)
            simp only [decide_eq_true c1, decide_eq_true c2, decide_eq_true c3, c4, c6, Bool.true_eq_false, or_self, if_false, if_true]
            obtain ⟨I1, eI1⟩ : ∃ I1, I1 = gIm I m a1 a2 a3 := ⟨_, rfl⟩
            rw [← eI1]
            have hI1 : ∀ b j, ¬ (b = 65 ∧ j = 1) → ¬ (b = g_n m ∧ j < 3) → I1 b j = I b j := by
              intro b j q1 q2
              rw [eI1]
              unfold gIm
              rw [u_ap, if_neg (by omega), u_ap, if_neg (by omega), u_ap, if_neg (by omega), u_ap, if_neg (by omega)]
            have gn : g_n m = 117 + 2 * m := rfl
            refine ⟨(nI m, g_u (g_u (g_u (g_u (g_u (g_u I1 108 m a1) 109 m a2) 110 m a3) 111 m 0) 112 m 0) 87 32 (nI (m + 1))), ?_, ?_, ?_⟩
            · rw [hF, if_pos c1, if_pos c2, if_pos c3, if_neg c4, hI1 87 32 (by omega) (by omega), g2, if_neg (show ¬ nI m = 24 from fun q => absurd ((nI_eq (b := 24) (by omega) (by omega)).mp q) (by omega)), match_in (n := m) (by rw [hI1 87 32 (by omega) (by omega)]; exact g2) c5]
            · show nI m + 1 - 1 = nI m
              rw [nI_1, nI_pred]
            · dsimp only
              have hq : ∀ b j, ¬ (b = 65 ∧ j = 1) → ¬ (b = 117 + 2 * m ∧ j < 3) → ¬ (108 ≤ b ∧ b ≤ 112 ∧ j = m) → ¬ (b = 87 ∧ j = 32) → g_u (g_u (g_u (g_u (g_u (g_u I1 108 m a1) 109 m a2) 110 m a3) 111 m 0) 112 m 0) 87 32 (nI (m + 1)) b j = I b j := by
                intro b j q1 q2 q3 q4
                rw [u_ap, if_neg (by omega), u_ap, if_neg (by omega), u_ap, if_neg (by omega), u_ap, if_neg (by omega), u_ap, if_neg (by omega), u_ap, if_neg (by omega)]
                exact hI1 b j q1 (by omega)
              refine h.match ⟨by omega, ?_, u_eq rfl rfl, fun k hk => ?_⟩ (fun b hb j => ?_) (fun a j q1 q2 => ?_)
              · simp (disch := omega) only [u_na]
                rw [eI1]
                unfold gIm
                rw [u_eq rfl rfl, g1, nI_1]
              · by_cases ek : k = m
                · subst ek
                  have hz : ∀ j, (I (117 + 2 * k) j = 0) ∧ I (118 + 2 * k) j = 0 := fun j => ⟨(hfr _ (by omega) j).1, (hfr _ (by omega) j).1⟩
                  have cl : ∀ j, I1 (117 + 2 * k) j = if j = 0 then a1 else if j = 1 then a2 else if j = 2 then a3 else 0 := by
                    intro j
                    rw [eI1]
                    unfold gIm
                    rw [u_na (by omega), gn, u_ap, u_ap, u_ap, (hz j).1]
                    by_cases j0 : j = 0
                    · subst j0; simp
                    · by_cases j1 : j = 1
                      · subst j1; simp
                      · by_cases j2 : j = 2
                        · subst j2; simp
                        · simp [j0, j1, j2]
                  unfold q_one
                  simp (disch := omega) only [u_eq, u_na, u_nk, cl]
                  refine ⟨⟨rfl, c1⟩, ⟨rfl, c2⟩, c4, ⟨rfl, c3⟩, ⟨rfl, by decide⟩, 0, by omega, rfl, rfl, fun j hj => absurd hj (by omega)⟩
                · refine (h6 k (by omega)).cg fun a j q => ?_
                  unfold R_one at q
                  exact hq a j (by omega) (by omega) (by omega) (by omega)
              · have hb' : 117 + 2 * (m + 1) ≤ b := hb
                rw [hq b j (by omega) (by omega) (by omega) (by omega)]
                exact hfr b (by omega) j
              · unfold R_match at q1
                exact hq a j (by omega) (by omega) (by omega) (by omega)
          · have c6 : ¬ nI m < 24 := nI_nlt (b := 24) (by omega) (by omega)
            simp only [decide_eq_true c1, decide_eq_true c2, decide_eq_true c3, c4, c6, Bool.true_eq_false, or_self, if_false]
            refine ⟨(-1004, I), ?_, rfl, h⟩
            rw [hF I, if_pos c1, if_pos c2, if_pos c3, if_neg c4, g2, if_pos (show nI m = 24 by rw [show m = 24 by omega]; rfl)]
      · simp only [decide_eq_true c1, decide_eq_true c2, decide_eq_false c3, Bool.true_eq_false, or_self, true_or, if_false, if_true]
        refine ⟨(-1002, I), ?_, rfl, h⟩
        rw [hF I, if_pos c1, if_pos c2, if_neg c3]
    · simp only [decide_eq_true c1, decide_eq_false c2, Bool.true_eq_false, or_true, if_true]
      refine ⟨(-1001, I), ?_, rfl, h⟩
      rw [hF I, if_pos c1, if_neg c2]
  · simp only [decide_eq_false c1, true_or, if_true]
    refine ⟨(-1001, I), ?_, rfl, h⟩
    rw [hF I, if_neg c1]
