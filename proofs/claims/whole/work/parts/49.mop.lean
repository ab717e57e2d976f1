/-! about, end, mend, dusk, match -/
theorem f_find1 {I : gI} {m k : Nat} (h : I 65 1 = nI m) (hm : m ≤ 24) (hk : k < m) : f_X0_find m (nI k) I = some (some (117 + 2 * k)) := by
  unfold f_X0_find
  have e0 : (0 : Int32).toInt = 0 := by decide
  rw [w_in, h, nI_m1 (by omega), nI_toInt (by omega), gin_nI (by omega) (by omega), nI_clamp (by omega), decide_eq_true (by omega), if_pos hk]
  simp
theorem f_find0 {I : gI} {m : Nat} {x : Int32} (h : I 65 1 = nI m) (hm : m ≤ 24) (hx : ¬ (0 ≤ x.toInt ∧ x.toInt < m)) : f_X0_find m x I = some none := by
  unfold f_X0_find
  have e0 : (0 : Int32).toInt = 0 := by decide
  rw [w_in, h, nI_m1 (by omega), decide_eq_false (by omega)]
  simp
theorem f_no1 {I : gI} {m k : Nat} (h : I 87 32 = nI m) (hm : m ≤ 24) (hk : k < m) : f_X10_noMatch (nI k) I = false := by
  unfold f_X10_noMatch
  have e0 : (0 : Int64).toInt = 0 := by decide
  rw [m_in, h, Int32.toInt_toInt64, Int32.toInt_toInt64, nI_m1 (by omega), nI_toInt (by omega), decide_eq_true (by omega)]
  simp
theorem f_no0 {I : gI} {m : Nat} {x : Int32} (h : I 87 32 = nI m) (hm : m ≤ 24) (hx : ¬ (0 ≤ x.toInt ∧ x.toInt < m)) : f_X10_noMatch x I = true := by
  unfold f_X10_noMatch
  have e0 : (0 : Int64).toInt = 0 := by decide
  rw [m_in, h, Int32.toInt_toInt64, Int32.toInt_toInt64, nI_m1 (by omega), decide_eq_false (by omega)]
  simp
/-- both work one match out -/
theorem both_st {m k : Nat} {I : gI} {J : gJ} (h : Inv m I J) (hk : k < m) : ∃ I1 I2, f_X9_settle (117 + 2 * k) I = some I1 ∧ sm m I I1 ∧ I1 (117 + 2 * k) 9 = (M_res I k).1 ∧ I1 (117 + 2 * k) 7 = (M_res I k).2.1 ∧ I1 (117 + 2 * k) 8 = (M_res I k).2.2.1 ∧ I1 (117 + 2 * k) 6 = nI (M_res I k).2.2.2 ∧ f_X10_stateOf (nI k) I1 = some ((M_res I k).1, I2) ∧ sm m I I2 ∧ I2 87 39 = (M_res I k).2.1 ∧ I2 87 40 = (M_res I k).2.2.1 ∧ I2 87 41 = nI (M_res I k).2.2.2 := by
  obtain ⟨-, -, h3, -, -, ⟨hm, -, -, h6⟩, -⟩ := id h
  obtain ⟨I1, r1, r2, r3, r4, r5, r6⟩ := settle_c (h6 k hk) h3
  have s1 : sm m I I1 := fun a j q => r2 a j (by unfold scr at q; omega)
  obtain ⟨I2, t1, t2, t3, t4, t5⟩ := state_m (show k < 24 by omega) ((h6 k hk).sm s1).mo
  have s2 : sm m I1 I2 := fun a j q => t2 a j (by unfold scr at q; omega)
  rw [M_res_sm s1] at t1 t3 t4 t5
  exact ⟨I1, I2, r1, s1, r3, r4, r5, r6, t1, s1.tr s2, t3, t4, t5⟩
theorem o_about : op_about Inv := by
  intro m I J a1 w h
  obtain ⟨-, -, h3, -, -, ⟨hm, g1, g2, h6⟩, -⟩ := id h
  rcases k_rng m a1 with ⟨k, hk, rfl⟩ | hx
  · obtain ⟨I1, I2, r1, s1, r9, r7, r8, r6, t1, s2, t39, t40, t41⟩ := both_st h hk
    have q1 := (h6 k hk).sm s1
    have q2 := (h6 k hk).sm s2
    have hk24 : k < 24 := by omega
    have e1 : ∀ a j, a = 108 ∨ a = 109 ∨ a = 110 ∨ a = 112 → I2 a j = I a j := fun a j q => s2 a j (by unfold scr; omega)
    have e2 : ∀ a j, a = 108 ∨ a = 109 ∨ a = 110 ∨ a = 112 → I1 a j = I a j := fun a j q => s1 a j (by unfold scr; omega)
    unfold f_X9_about
    rw [f_find1 g1 hm hk]
    simp only [Option.bind_some]
    rw [r1]
    simp only [Option.bind_some]
    have hF : f_X10_about (nI k) w I1 = (if w = 0 then some (I2 108 k, I2) else if w = 1 then some (I2 109 k, I2) else if w = 2 then some (I2 110 k, I2) else if w = 3 then some (I2 112 k, I2) else if w = 4 then some (I2 87 41, I2) else if w = 5 then some (I2 87 39, I2) else if w = 6 then some (I2 87 40, I2) else if w = 7 then some ((M_res I k).1, I2) else some (-1002, I2)) := by
      unfold f_X10_about
      rw [f_no1 (m := m) (by rw [s1 87 32 (by unfold scr; omega)]; exact g2) hm hk, t1]
      simp only [Option.bind_some, if_true, gin_nI hk24 (show 24 < 2 ^ 31 by omega), nI_clamp (show k < 2 ^ 31 by omega)]
    have H : ∀ (x : Int32), (∀ y : Int32 × gI, y = (x, I2) → f_X10_about (nI k) w I1 = some y) → ∃ r1 r2 : Int32 × gI, some (x, I1) = some r1 ∧ f_X10_about (nI k) w r1.2 = some r2 ∧ r1.1 = r2.1 ∧ Inv m r2.2 J := fun x hy => ⟨(x, I1), (x, I2), rfl, hy _ rfl, rfl, h.sm s2 sj.rfl⟩
    obtain ⟨o, ho1, ho2, ho3, ho4⟩ := (⟨_, q1.2.2.2.2.2.choose_spec⟩ : ∃ e, e ≤ 40 ∧ I1 (117 + 2 * k) 4 = nI e ∧ I1 112 k = nI e ∧ _)
    by_cases w0 : w = 0
    · rw [if_pos w0]
      refine H _ (fun y hy => ?_)
      rw [hF, if_pos w0, hy, q1.1.1, e1 _ _ (by omega), e2 _ _ (by omega)]
    rw [if_neg w0] at hF ⊢
    by_cases w1 : w = 1
    · rw [if_pos w1]
      refine H _ (fun y hy => ?_)
      rw [hF, if_pos w1, hy, q1.2.1.1, e1 _ _ (by omega), e2 _ _ (by omega)]
    rw [if_neg w1] at hF ⊢
    by_cases w2 : w = 2
    · rw [if_pos w2]
      refine H _ (fun y hy => ?_)
      rw [hF, if_pos w2, hy, q1.2.2.2.1.1, e1 _ _ (by omega), e2 _ _ (by omega)]
    rw [if_neg w2] at hF ⊢
    by_cases w3 : w = 3
    · rw [if_pos w3]
      refine H _ (fun y hy => ?_)
      rw [hF, if_pos w3, hy, ho2, ← ho3, e1 _ _ (by omega), e2 _ _ (by omega)]
    rw [if_neg w3] at hF ⊢
    by_cases w4 : w = 4
    · rw [if_pos w4]
      refine H _ (fun y hy => ?_)
      rw [hF, if_pos w4, hy, r6, t41]
    rw [if_neg w4] at hF ⊢
    by_cases w5 : w = 5
    · rw [if_pos w5]
      refine H _ (fun y hy => ?_)
      rw [hF, if_pos w5, hy, r7, t39]
    rw [if_neg w5] at hF ⊢
    by_cases w6 : w = 6
    · rw [if_pos w6]
      refine H _ (fun y hy => ?_)
      rw [hF, if_pos w6, hy, r8, t40]
    rw [if_neg w6] at hF ⊢
    by_cases w7 : w = 7
    · rw [if_pos w7]
      refine H _ (fun y hy => ?_)
      rw [hF, if_pos w7, hy, r9]
    rw [if_neg w7] at hF ⊢
    refine H _ (fun y hy => ?_)
    rw [hF, hy]
  · refine ⟨(-1001, I), (-1001, I), ?_, ?_, rfl, h⟩
    · unfold f_X9_about
      rw [f_find0 g1 hm hx]
      rfl
    · dsimp only
      unfold f_X10_about
      rw [f_no0 g2 hm hx]
      rfl
theorem o_dusk : op_dusk Inv := by
  intro m I J a1 h
  obtain ⟨-, -, h3, -, -, ⟨hm, g1, g2, h6⟩, hfr⟩ := id h
  rcases k_rng m a1 with ⟨k, hk, rfl⟩ | hx
  · obtain ⟨I1, I2, r1, s1, r9, r7, r8, r6, t1, s2, t39, t40, t41⟩ := both_st h hk
    have hk24 : k < 24 := by omega
    unfold f_X9_dusk
    rw [f_find1 g1 hm hk]
    simp only [Option.bind_some]
    rw [r1]
    simp only [Option.bind_some]
    rw [r9]
    by_cases c : (M_res I k).1 = 0
    · rw [if_pos c]
      obtain ⟨I3, u1, u2, -⟩ := state_m (I := g_u I1 (117 + 2 * k) 5 1) hk24 (((h6 k hk).sm s1).mo.cg fun a q => u_na (by omega))
      have hMr : M_res (g_u I1 (117 + 2 * k) 5 1) k = M_res I k := (M_res_cg fun a j q => u_na (by omega)).trans (M_res_sm s1)
      rw [hMr, c] at u1
      have hq : ∀ b j, ¬ scr m b j → ¬ (b = 117 + 2 * k ∧ j = 5) → ¬ (b = 111 ∧ j = k) → g_u I3 111 k (1 &&& 1) b j = I b j := by
        intro b j q q2 q3
        rw [u_ap, if_neg (by omega), u2 b j (by unfold scr at q; omega), u_ap, if_neg (by omega)]
        exact s1 b j q
      refine ⟨(1, g_u I1 (117 + 2 * k) 5 1), (1, g_u I3 111 k (1 &&& 1)), rfl, ?_, rfl, ?_⟩
      · dsimp only
        unfold f_X10_dusk
        rw [f_no1 (m := m) (by rw [u_na (by omega), s1 87 32 (by unfold scr; omega)]; exact g2) hm hk, u1]
        simp only [Option.bind_some, if_true, gin_nI hk24 (show 24 < 2 ^ 31 by omega), nI_clamp (show k < 2 ^ 31 by omega)]
      · dsimp only
        refine h.match ⟨hm, ?_, ?_, fun k' hk' => ?_⟩ (hfr.cg (fun a j q => ?_) sj.rfl) (fun a j q1 q2 => ?_)
        · rw [hq _ _ (by unfold scr; omega) (by omega) (by omega)]; exact g1
        · rw [hq _ _ (by unfold scr; omega) (by omega) (by omega)]; exact g2
        · by_cases e : k' = k
          · subst e
            obtain ⟨a1, a2, a3, a4, a5, e, he, a11, a12, a13⟩ := h6 k' hk'
            unfold q_one
            rw [hq 108 k' (by unfold scr; omega) (by omega) (by omega), hq 109 k' (by unfold scr; omega) (by omega) (by omega), hq 110 k' (by unfold scr; omega) (by omega) (by omega), hq (117 + 2 * k') 0 (by unfold scr; omega) (by omega) (by omega), hq (117 + 2 * k') 1 (by unfold scr; omega) (by omega) (by omega), hq (117 + 2 * k') 2 (by unfold scr; omega) (by omega) (by omega)]
            refine ⟨a1, a2, a3, a4, ⟨?_, ?_⟩, e, he, ?_, ?_, fun j hj => ?_⟩
            · rw [u_na (by omega), u2 _ _ (by omega), u_eq rfl rfl, u_eq rfl rfl]
              rfl
            · rw [u_eq rfl rfl]
              decide
            · rw [hq _ _ (by unfold scr; omega) (by omega) (by omega)]; exact a11
            · rw [hq _ _ (by unfold scr; omega) (by omega) (by omega)]; exact a12
            · rw [hq _ _ (by unfold scr; omega) (by omega) (by omega), hq _ _ (by unfold scr; omega) (by omega) (by omega)]; exact a13 j hj
          · refine (h6 k' hk').cg fun a j q => ?_
            unfold R_one at q
            exact hq a j (by unfold scr; omega) (by omega) (by omega)
        · unfold g_n at q
          exact hq a j (by unfold scr; omega) (by omega) (by omega)
        · unfold R_match at q1
          exact hq a j q2 (by omega) (by omega)
    · rw [if_neg c]
      refine ⟨(-1003, I1), (-1003, I2), rfl, ?_, rfl, h.sm s2 sj.rfl⟩
      dsimp only
      unfold f_X10_dusk
      rw [f_no1 (m := m) (by rw [s1 87 32 (by unfold scr; omega)]; exact g2) hm hk, t1]
      simp only [Option.bind_some, if_true]
      rw [if_neg c]
  · refine ⟨(-1001, I), (-1001, I), ?_, ?_, rfl, h⟩
    · unfold f_X9_dusk
      rw [f_find0 g1 hm hx]
      rfl
    · dsimp only
      unfold f_X10_dusk
      rw [f_no0 g2 hm hx]
      rfl
theorem es_c (x : Int32) : f_X9_isEndScore x = decide (-99 ≤ x.toInt ∧ x.toInt ≤ 99) := by
  unfold f_X9_isEndScore
  rw [w_in]
  rfl
theorem es_m (x : Int32) : f_X10_in x.toInt64 (-99) 99 = decide (-99 ≤ x.toInt ∧ x.toInt ≤ 99) := by
  rw [m_in, Int32.toInt_toInt64]
  rfl
theorem o_end : op_end Inv := by
  intro m I J a1 s h
  obtain ⟨-, -, h3, -, -, ⟨hm, g1, g2, h6⟩, hfr⟩ := id h
  rcases k_rng m a1 with ⟨k, hk, rfl⟩ | hx
  · obtain ⟨I1, I2, r1, s1, r9, r7, r8, r6, t1, s2, t39, t40, t41⟩ := both_st h hk
    have hk24 : k < 24 := by omega
    obtain ⟨a1, a2, a3, a4, a5, e, he, a11, a12, a13⟩ := h6 k hk
    have n1 : f_X10_noMatch (nI k) I1 = false := f_no1 (m := m) (by rw [s1 87 32 (by unfold scr; omega)]; exact g2) hm hk
    have n2 : I2 112 k = nI e := by rw [s2 112 k (by unfold scr; omega)]; exact a12
    unfold f_X9_end
    rw [f_find1 g1 hm hk]
    simp only [Option.bind_some]
    rw [es_c]
    by_cases c0 : -99 ≤ s.toInt ∧ s.toInt ≤ 99
    · rw [decide_eq_true c0, r1]
      simp only [Option.bind_some, if_true]
      rw [r9, show I1 (117 + 2 * k) 4 = nI e by rw [s1 _ _ (by unfold scr; omega)]; exact a11]
      by_cases c : (M_res I k).1 = 0
      · rw [if_pos c]
        by_cases c4 : e < 40
        · rw [if_pos (show nI e < 40 from nI_lt (b := 40) c4 (by omega)), gin_nI c4 (by omega), nI_clamp (by omega)]
          simp only [if_true]
          rw [u_na (show 117 + 2 * k ≠ 117 + 2 * k + 1 by omega), show I1 (117 + 2 * k) 4 = nI e by rw [s1 _ _ (by unfold scr; omega)]; exact a11, nI_1, u_eq rfl rfl, nI_pred]
          obtain ⟨I4, eI4⟩ : ∃ I4, I4 = g_u (g_u I1 (117 + 2 * k + 1) e s) (117 + 2 * k) 4 (nI (e + 1)) := ⟨_, rfl⟩
          rw [← eI4]
          have h4s : ∀ b j, b < 117 → I4 b j = I1 b j := fun b j q => by rw [eI4, u_na (by omega), u_na (by omega)]
          obtain ⟨I3, u1, u2, -⟩ := state_m (I := I4) hk24 ((((h6 k hk).sm s1).mo).cg fun a q => h4s a k (by omega))
          have hMr : M_res I4 k = M_res I k := (M_res_cg fun a j q => h4s a j (by omega)).trans (M_res_sm s1)
          rw [hMr, c] at u1
          have n3 : I3 112 k = nI e := by rw [u2 _ _ (by omega), h4s _ _ (by omega), s1 112 k (by unfold scr; omega)]; exact a12
          obtain ⟨x1, x2⟩ := ix40 k hk24 e c4
          have hq : ∀ b j, ¬ scr m b j → ¬ (b = 117 + 2 * k ∧ j = 4) → ¬ (b = 118 + 2 * k ∧ j = e) → ¬ (b = 112 ∧ j = k) → ¬ (b = 113 ∧ j = 40 * k + e) → g_u (g_u I3 113 (40 * k + e) s) 112 k (nI (e + 1)) b j = I b j := by
            intro b j q q2 q3 q4 q5
            rw [u_ap, if_neg (by omega), u_ap, if_neg (by omega), u2 b j (by unfold scr at q; omega), eI4, u_ap, if_neg (by omega), u_ap, if_neg (by omega)]
            exact s1 b j q
          refine ⟨(nI e, I4), (nI e, g_u (g_u I3 113 (40 * k + e) s) 112 k (nI (e + 1))), rfl, ?_, rfl, ?_⟩
          · dsimp only
            unfold f_X10_end
            rw [f_no1 (m := m) (by rw [h4s _ _ (by omega), s1 87 32 (by unfold scr; omega)]; exact g2) hm hk, es_m, decide_eq_true c0, u1]
            simp only [Option.bind_some, if_true, gin_nI hk24 (show 24 < 2 ^ 31 by omega), nI_clamp (show k < 2 ^ 31 by omega), n3, x1, x2]
            rw [if_neg (show ¬ nI e = 40 from fun q => absurd ((nI_eq (b := 40) (by omega) (by omega)).mp q) (by omega))]
            simp (disch := omega) only [u_eq, u_na, n3, nI_1, nI_pred]
          · dsimp only
            refine h.match ⟨hm, ?_, ?_, fun k' hk' => ?_⟩ (hfr.cg (fun a j q => ?_) sj.rfl) (fun a j q1 q2 => ?_)
            · rw [hq _ _ (by unfold scr; omega) (by omega) (by omega) (by omega) (by omega)]; exact g1
            · rw [hq _ _ (by unfold scr; omega) (by omega) (by omega) (by omega) (by omega)]; exact g2
            · by_cases ek : k' = k
              · subst ek
                unfold q_one
                rw [hq 108 k' (by unfold scr; omega) (by omega) (by omega) (by omega) (by omega), hq 109 k' (by unfold scr; omega) (by omega) (by omega) (by omega) (by omega), hq 110 k' (by unfold scr; omega) (by omega) (by omega) (by omega) (by omega), hq 111 k' (by unfold scr; omega) (by omega) (by omega) (by omega) (by omega), hq (117 + 2 * k') 0 (by unfold scr; omega) (by omega) (by omega) (by omega) (by omega), hq (117 + 2 * k') 1 (by unfold scr; omega) (by omega) (by omega) (by omega) (by omega), hq (117 + 2 * k') 2 (by unfold scr; omega) (by omega) (by omega) (by omega) (by omega), hq (117 + 2 * k') 5 (by unfold scr; omega) (by omega) (by omega) (by omega) (by omega)]
                refine ⟨a1, a2, a3, a4, a5, e + 1, by omega, ?_, u_eq rfl rfl, fun j hj => ?_⟩
                · rw [u_na (by omega), u_na (by omega), u2 _ _ (by omega), eI4, u_eq rfl rfl]
                · by_cases ej : j = e
                  · subst ej
                    rw [u_na (by omega), u_na (by omega), u2 _ _ (by omega), eI4, u_na (by omega), u_eq (by omega) rfl, u_na (by omega), u_eq rfl rfl]
                    exact ⟨rfl, c0⟩
                  · rw [hq _ _ (by unfold scr; omega) (by omega) (by omega) (by omega) (by omega), hq _ _ (by unfold scr; omega) (by omega) (by omega) (by omega) (by omega)]
                    exact a13 j (by omega)
              · refine (h6 k' hk').cg fun a j q => ?_
                unfold R_one at q
                exact hq a j (by unfold scr; omega) (by omega) (by omega) (by omega) (by omega)
            · unfold g_n at q
              exact hq a j (by unfold scr; omega) (by omega) (by omega) (by omega) (by omega)
            · unfold R_match at q1
              exact hq a j q2 (by omega) (by omega) (by omega) (by omega)
        · rw [if_neg (show ¬ nI e < 40 from nI_nlt (b := 40) (by omega) (by omega))]
          refine ⟨(-1004, I1), (-1004, I2), rfl, ?_, rfl, h.sm s2 sj.rfl⟩
          dsimp only
          unfold f_X10_end
          rw [n1, es_m, decide_eq_true c0, t1]
          simp only [Option.bind_some, if_true, gin_nI hk24 (show 24 < 2 ^ 31 by omega), nI_clamp (show k < 2 ^ 31 by omega), n2]
          rw [if_pos c, if_pos (show nI e = 40 by rw [show e = 40 by omega]; rfl)]
      · rw [if_neg c]
        refine ⟨(-1003, I1), (-1003, I2), rfl, ?_, rfl, h.sm s2 sj.rfl⟩
        dsimp only
        unfold f_X10_end
        rw [n1, es_m, decide_eq_true c0, t1]
        simp only [Option.bind_some, if_true]
        rw [if_neg c]
    · rw [decide_eq_false c0]
      refine ⟨(-1002, I), (-1002, I), rfl, ?_, rfl, h⟩
      dsimp only
      unfold f_X10_end
      rw [f_no1 g2 hm hk, es_m, decide_eq_false c0]
      rfl
  · refine ⟨(-1001, I), (-1001, I), ?_, ?_, rfl, h⟩
    · unfold f_X9_end
      rw [f_find0 g1 hm hx]
      rfl
    · dsimp only
      unfold f_X10_end
      rw [f_no0 g2 hm hx]
      rfl
theorem o_mend : op_mend Inv := by
  intro m I J a1 a2 s h
  obtain ⟨-, -, h3, -, -, ⟨hm, g1, g2, h6⟩, hfr⟩ := id h
  rcases k_rng m a1 with ⟨k, hk, rfl⟩ | hx
  · have hk24 : k < 24 := by omega
    obtain ⟨b1, b2, b3, b4, b5, e, he, a11, a12, a13⟩ := h6 k hk
    have e0 : (0 : Int32).toInt = 0 := by decide
    have f0 : (0 : Int64).toInt = 0 := by decide
    unfold f_X9_mend
    rw [f_find1 g1 hm hk]
    simp only [Option.bind_some]
    rw [es_c, w_in, a11, nI_m1 (by omega), e0]
    have hF : ∀ I' : gI, I' 87 32 = nI m → I' 112 k = nI e → f_X10_mend (nI k) a2 s I' = if 0 ≤ a2.toInt ∧ a2.toInt ≤ (e : Int) - 1 then (if -99 ≤ s.toInt ∧ s.toInt ≤ 99 then (if g_in (40 * nI k + a2) 960 = true then some (I' 113 (40 * nI k + a2).toNatClampNeg, g_u I' 113 (40 * nI k + a2).toNatClampNeg s) else none) else some (-1002, I')) else some (-1001, I') := by
      intro I' q1 q2
      unfold f_X10_mend
      rw [f_no1 q1 hm hk, gin_nI hk24 (by omega), nI_clamp (by omega), q2, m_in, Int32.toInt_toInt64, Int32.toInt_toInt64, nI_m1 (by omega), f0, es_m]
      by_cases c1 : 0 ≤ a2.toInt ∧ a2.toInt ≤ (e : Int) - 1
      · by_cases c2 : -99 ≤ s.toInt ∧ s.toInt ≤ 99
        · by_cases c3 : g_in (40 * nI k + a2) 960 = true
          · simp [c1, c2, c3]
          · simp [c1, c2, c3]
        · simp [c1, c2]
      · simp [c1]
    by_cases c1 : 0 ≤ a2.toInt ∧ a2.toInt ≤ (e : Int) - 1
    · rw [decide_eq_true c1]
      simp only [if_true]
      by_cases c2 : -99 ≤ s.toInt ∧ s.toInt ≤ 99
      · rw [decide_eq_true c2]
        simp only [if_true]
        obtain ⟨j, hj, rfl⟩ := nI_lt_of (x := a2) (n := e) c1.1 (by omega)
        obtain ⟨x1, x2⟩ := ix40 k hk24 j (by omega)
        rw [gin_nI (show j < 40 by omega) (by omega), nI_clamp (by omega)]
        simp only [if_true]
        refine ⟨(I (117 + 2 * k + 1) j, g_u I (117 + 2 * k + 1) j s), (I 113 (40 * k + j), g_u (g_u I (117 + 2 * k + 1) j s) 113 (40 * k + j) s), rfl, ?_, ?_, ?_⟩
        · dsimp only
          rw [hF _ (by rw [u_na (by omega)]; exact g2) (by rw [u_na (by omega)]; exact a12), if_pos c1, if_pos c2, x1, x2, u_na (by omega)]
          rfl
        · dsimp only
          rw [show 117 + 2 * k + 1 = 118 + 2 * k by omega]
          exact (a13 j hj).1
        · dsimp only
          have hq : ∀ b i, ¬ (b = 118 + 2 * k ∧ i = j) → ¬ (b = 113 ∧ i = 40 * k + j) → g_u (g_u I (117 + 2 * k + 1) j s) 113 (40 * k + j) s b i = I b i := by
            intro b i q1 q2
            rw [u_ap, if_neg (by omega), u_ap, if_neg (by omega)]
          refine h.match ⟨hm, ?_, ?_, fun k' hk' => ?_⟩ (hfr.cg (fun a i q => ?_) sj.rfl) (fun a i q1 q2 => ?_)
          · rw [hq _ _ (by omega) (by omega)]; exact g1
          · rw [hq _ _ (by omega) (by omega)]; exact g2
          · by_cases ek : k' = k
            · subst ek
              unfold q_one
              rw [hq 108 k' (by omega) (by omega), hq 109 k' (by omega) (by omega), hq 110 k' (by omega) (by omega), hq 111 k' (by omega) (by omega), hq (117 + 2 * k') 0 (by omega) (by omega), hq (117 + 2 * k') 1 (by omega) (by omega), hq (117 + 2 * k') 2 (by omega) (by omega), hq (117 + 2 * k') 5 (by omega) (by omega)]
              refine ⟨b1, b2, b3, b4, b5, e, he, ?_, ?_, fun i hi => ?_⟩
              · rw [hq _ _ (by omega) (by omega)]; exact a11
              · rw [hq _ _ (by omega) (by omega)]; exact a12
              · by_cases ej : i = j
                · subst ej
                  rw [u_na (by omega), u_eq (by omega) rfl, u_eq rfl rfl]
                  exact ⟨rfl, c2⟩
                · rw [hq _ _ (by omega) (by omega), hq _ _ (by omega) (by omega)]
                  exact a13 i hi
            · refine (h6 k' hk').cg fun a i q => ?_
              unfold R_one at q
              exact hq a i (by omega) (by omega)
          · unfold g_n at q
            exact hq a i (by omega) (by omega)
          · unfold R_match at q1
            exact hq a i (by omega) (by omega)
      · rw [decide_eq_false c2]
        refine ⟨(-1002, I), (-1002, I), rfl, ?_, rfl, h⟩
        dsimp only
        rw [hF I g2 a12, if_pos c1, if_neg c2]
    · rw [decide_eq_false c1]
      refine ⟨(-1001, I), (-1001, I), rfl, ?_, rfl, h⟩
      dsimp only
      rw [hF I g2 a12, if_neg c1]
  · refine ⟨(-1001, I), (-1001, I), ?_, ?_, rfl, h⟩
    · unfold f_X9_mend
      rw [f_find0 g1 hm hx]
      rfl
    · dsimp only
      unfold f_X10_mend
      rw [f_no0 g2 hm hx]
      rfl
