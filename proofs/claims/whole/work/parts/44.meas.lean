/-! measure -/
theorem cnt_cg {a : Nat} {I I' : gI} (h : ∀ k, I' (a + 1) k = I (a + 1) k) : f_X2_countSpans a I' = f_X2_countSpans a I := by
  have e : ∀ I : gI, f_X2_countSpans a I = some (if I (a + 1) 2 = -1 then (if I (a + 1) 1 = -1 then (if I (a + 1) 0 = -1 then 0 else 0 + 1) else (if I (a + 1) 0 = -1 then 0 else 0 + 1) + 1) else (if I (a + 1) 1 = -1 then (if I (a + 1) 0 = -1 then 0 else 0 + 1) else (if I (a + 1) 0 = -1 then 0 else 0 + 1) + 1) + 1) := fun I => rfl
  rw [e, e, h, h, h]
theorem o_measure : op_measure Inv := by
  intro m I J a1 a2 lo hi h
  obtain ⟨⟨n, hc⟩, -⟩ := id h
  obtain ⟨h1, h2, hn, h4⟩ := id hc
  rcases k_rng n a1 with ⟨j, hj, rfl⟩ | hx
  · have hq := h4 j hj
    have hj12 : j < 12 := by omega
    have e0 : (0 : Int32).toInt = 0 := by decide
    have e2 : (2 : Int32).toInt = 2 := by decide
    have e9 : (9999 : Int32).toInt = 9999 := by decide
    have f0 : (0 : Int64).toInt = 0 := by decide
    have f2 : (2 : Int64).toInt = 2 := by decide
    have f9 : (9999 : Int64).toInt = 9999 := by decide
    obtain ⟨x1, x2, x3, x4, x5, x6⟩ := ix3 j hj12
    unfold f_X9_measure
    rw [k_find1 h1 hn hj]
    simp only [Option.bind_some]
    rw [w_in, w_in, w_in, e0, e2, e9]
    have hm : ∀ I' : gI, I' 87 0 = I 87 0 → f_X10_isRinger (nI j) I' = some (f_X2_isRinger (3 + 3 * j) I) → I' 95 j = I 95 j → f_X10_measure (nI j) a2 lo hi I' = if 0 ≤ a2.toInt ∧ a2.toInt ≤ 2 then (if 0 ≤ lo.toInt ∧ lo.toInt ≤ 9999 then (if lo.toInt ≤ hi.toInt ∧ hi.toInt ≤ 9999 then (if f_X2_isRinger (3 + 3 * j) I = true then some (-1003, I') else if I 95 j = 0 then (if g_in (3 * nI j + a2) 36 = true then some (f_X10_bit (g_u (g_u (g_u I' 96 (3 * nI j + a2).toNatClampNeg 1) 97 (3 * nI j + a2).toNatClampNeg lo) 98 (3 * nI j + a2).toNatClampNeg hi 96 (3 * j)) + f_X10_bit (g_u (g_u (g_u I' 96 (3 * nI j + a2).toNatClampNeg 1) 97 (3 * nI j + a2).toNatClampNeg lo) 98 (3 * nI j + a2).toNatClampNeg hi 96 (3 * j + 1)) + f_X10_bit (g_u (g_u (g_u I' 96 (3 * nI j + a2).toNatClampNeg 1) 97 (3 * nI j + a2).toNatClampNeg lo) 98 (3 * nI j + a2).toNatClampNeg hi 96 (3 * j + 2)), g_u (g_u (g_u I' 96 (3 * nI j + a2).toNatClampNeg 1) 97 (3 * nI j + a2).toNatClampNeg lo) 98 (3 * nI j + a2).toNatClampNeg hi) else none) else some (-1003, I')) else some (-1002, I')) else some (-1002, I')) else some (-1002, I') := by
      intro I' g1 g2 g3
      unfold f_X10_measure
      rw [k_no1 (n := n) (by rw [g1, h2]) hn hj, m_in, m_in, m_in, g2, gin_nI hj12 (by omega), nI_clamp (by omega), g3]
      simp only [Int32.toInt_toInt64, f0, f2, f9, x1, x2, x3, x4, x5, x6, Option.bind_some, if_true, show (1 : Int32) &&& 1 = 1 by decide]
      by_cases c1 : 0 ≤ a2.toInt ∧ a2.toInt ≤ 2
      · by_cases c2 : 0 ≤ lo.toInt ∧ lo.toInt ≤ 9999
        · by_cases c3 : lo.toInt ≤ hi.toInt ∧ hi.toInt ≤ 9999
          · by_cases c6 : g_in (3 * nI j + a2) 36 = true
            · simp only [c1, c2, c3, c6, and_self, decide_true, if_true, Bool.true_eq_false, Bool.false_eq_true, if_false]
            · simp only [c1, c2, c3, c6, and_self, decide_true, if_true, Bool.true_eq_false, Bool.false_eq_true, if_false]
          · simp only [c1, c2, c3, and_self, decide_true, decide_false, if_true, Bool.true_eq_false, Bool.false_eq_true, if_false]
        · simp only [c1, c2, and_self, decide_true, decide_false, if_true, Bool.true_eq_false, Bool.false_eq_true, if_false]
      · simp only [c1, decide_true, decide_false, if_true, Bool.true_eq_false, Bool.false_eq_true, if_false]
    have mr := m_ring hj12 hq
    by_cases c1 : 0 ≤ a2.toInt ∧ a2.toInt ≤ 2
    · by_cases c2 : 0 ≤ lo.toInt ∧ lo.toInt ≤ 9999
      · by_cases c3 : lo.toInt ≤ hi.toInt ∧ hi.toInt ≤ 9999
        · by_cases c4 : f_X2_isRinger (3 + 3 * j) I = true
          · refine ⟨(-1003, I), (-1003, I), ?_, ?_, rfl, h⟩
            · simp only [c1, c2, c3, c4, and_self, decide_true, if_true, Bool.true_eq_false, Bool.false_eq_true, if_false]
            · dsimp only
              rw [hm I rfl mr rfl, if_pos c1, if_pos c2, if_pos c3, if_pos c4]
          · by_cases c5 : I (3 + 3 * j) 7 = 0
            · obtain ⟨k, hk, rfl⟩ := nI_lt_of (x := a2) (n := 3) c1.1 (by omega)
              obtain ⟨y1, y2⟩ := ix3k j hj12 k hk
              have hI2 : ∃ I2 : gI, I2 = g_u (g_u (g_u (g_u (g_u I (3 + 3 * j + 1) k lo) (3 + 3 * j + 2) k hi) 96 (3 * j + k) 1) 97 (3 * j + k) lo) 98 (3 * j + k) hi := ⟨_, rfl⟩
              obtain ⟨I2, eI2⟩ := hI2
              have hq2 : q_iron I2 j := by
                subst eI2
                obtain ⟨g1, g2, g3, g4⟩ := hq
                refine ⟨?_, ?_, fun k' hk' => ?_, fun _ => ?_⟩
                · simp (disch := omega) only [u_eq, u_na, u_nk]
                  exact g1
                · simp (disch := omega) only [u_eq, u_na, u_nk]
                  exact g2
                · by_cases ek : k' = k
                  · subst ek
                    right
                    simp (disch := omega) only [u_eq, u_na, u_nk]
                    exact ⟨trivial, trivial, trivial, c2.1, c3.1, c3.2⟩
                  · have := g3 k' hk'
                    unfold q_span at this ⊢
                    simp (disch := omega) only [u_eq, u_na, u_nk]
                    exact this
                · unfold f_X2_isRinger f_X2_square at c4 ⊢
                  simp (disch := omega) only [u_eq, u_na, u_nk]
                  simpa using c4
              have hcnt : f_X2_countSpans (3 + 3 * j) (g_u (g_u I (3 + 3 * j + 1) k lo) (3 + 3 * j + 2) k hi) = some (sp_n I2 j) := by
                rw [← c_cnt hq2]
                refine (cnt_cg fun k' => ?_).symm
                subst eI2
                simp (disch := omega) only [u_na]
              refine ⟨(sp_n I2 j, g_u (g_u I (3 + 3 * j + 1) k lo) (3 + 3 * j + 2) k hi), (sp_n I2 j, I2), ?_, ?_, rfl, ?_⟩
              · simp only [c1, c2, c3, c4, c5, and_self, decide_true, if_true, Bool.true_eq_false, Bool.false_eq_true, if_false, gin_nI hk (show 3 < 2 ^ 31 by omega), nI_clamp (show k < 2 ^ 31 by omega), hcnt, Option.bind_some]
              · dsimp only
                rw [hm, if_pos c1, if_pos c2, if_pos c3, if_neg c4, if_pos (hq.1.2.2.2.2.2.2.2 ▸ c5), y1, y2, ← eI2]
                · rfl
                · simp (disch := omega) only [u_na]
                · have hq1 : f_X10_isRinger (nI j) (g_u (g_u I (3 + 3 * j + 1) k lo) (3 + 3 * j + 2) k hi) = f_X10_isRinger (nI j) I := by
                    unfold f_X10_isRinger f_X10_square
                    simp (disch := omega) only [u_na]
                  rw [hq1, mr]
                · simp (disch := omega) only [u_na]
              · refine h.clay (n := n) ⟨?_, ?_, hn, fun i hi' => ?_⟩ (fun a k' q1 q2 => ?_) sj.rfl
                · subst eI2
                  simp (disch := omega) only [u_na]
                  exact h1
                · subst eI2
                  simp (disch := omega) only [u_na]
                  exact h2
                · by_cases e : i = j
                  · subst e
                    exact hq2
                  · refine (h4 i hi').cg fun a k q => ?_
                    unfold R_iron at q
                    subst eI2
                    dsimp only
                    repeat rw [u_ap, if_neg (by omega)]
                · unfold R_clay at q1
                  subst eI2
                  dsimp only
                  repeat rw [u_ap, if_neg (by omega)]
            · refine ⟨(-1003, I), (-1003, I), ?_, ?_, rfl, h⟩
              · simp only [c1, c2, c3, c4, c5, and_self, decide_true, if_true, Bool.true_eq_false, Bool.false_eq_true, if_false]
              · dsimp only
                rw [hm I rfl mr rfl, if_pos c1, if_pos c2, if_pos c3, if_neg c4, if_neg (hq.1.2.2.2.2.2.2.2 ▸ c5)]
        · refine ⟨(-1002, I), (-1002, I), ?_, ?_, rfl, h⟩
          · simp only [c1, c2, c3, and_self, decide_true, decide_false, if_true, Bool.true_eq_false, Bool.false_eq_true, if_false]
          · dsimp only
            rw [hm I rfl mr rfl, if_pos c1, if_pos c2, if_neg c3]
      · refine ⟨(-1002, I), (-1002, I), ?_, ?_, rfl, h⟩
        · simp only [c1, c2, and_self, decide_true, decide_false, if_true, Bool.true_eq_false, Bool.false_eq_true, if_false]
        · dsimp only
          rw [hm I rfl mr rfl, if_pos c1, if_neg c2]
    · refine ⟨(-1002, I), (-1002, I), ?_, ?_, rfl, h⟩
      · simp only [c1, decide_true, decide_false, if_true, if_false]
      · dsimp only
        rw [hm I rfl mr rfl, if_neg c1]
  · refine ⟨(-1001, I), (-1001, I), ?_, ?_, rfl, h⟩
    · unfold f_X9_measure
      rw [k_find0 h1 hn hx]
      rfl
    · dsimp only
      unfold f_X10_measure
      rw [k_no0 h2 hn hx]
      rfl
