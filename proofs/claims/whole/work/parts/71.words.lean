/-! which word it is, of both -/
def c_w (tx : Nat → Nat) (a b : Nat) : Int32 := if mt tx 0 a b = true then 0 else (if mt tx 1 a b = true then 1 else (if mt tx 2 a b = true then 2 else (if mt tx 3 a b = true then 3 else (if mt tx 4 a b = true then 4 else (if mt tx 5 a b = true then 5 else (if mt tx 6 a b = true then 6 else (if mt tx 7 a b = true then 7 else -1)))))))
def ca_w (tx : Nat → Nat) (a b : Nat) : Int32 := if mt tx 8 a b = true then 0 else (if mt tx 9 a b = true then 1 else (if mt tx 10 a b = true then 2 else -1))
def ye_w (tx : Nat → Nat) (a b : Nat) : Int32 := if mt tx 11 a b = true then 1 else (if mt tx 12 a b = true then 0 else -1)
def or_w (tx : Nat → Nat) (a b : Nat) : Int32 := if mt tx 13 a b = true then 0 else (if mt tx 14 a b = true then 1 else (if mt tx 15 a b = true then 2 else (if mt tx 16 a b = true then 3 else (if mt tx 17 a b = true then 4 else -1))))
section WORDS
variable {tx : Nat → Nat} {t : Nat} {I : gI} {a b : Nat}
theorem cw_c (h : TC tx t I) (ha : I 39 2 = nI a) (hab : a ≤ b) (hb : b ≤ t) : f_X6_clauseSpelled (nI b) I = some (c_w tx a b) := by
  unfold f_X6_clauseSpelled
  show f_X6_clauseSpelled_2 (991 + 1 + 1 + 1 + 1 + 1 + 1 + 1 + 1 + 1) (nI b) (nI 0) I = _
  rw [f_X6_clauseSpelled_2, if_neg (show ¬ (8 : Int32) ≤ nI 0 by decide), show f_X6_clauseWord (nI 0) = 0 by decide, spell_c (w := 0) (by decide) h ha hab hb, Option.bind_some]
  by_cases c0 : mt tx 0 a b = true
  · rw [if_neg (by rw [c0]; decide)]
    unfold c_w
    rw [if_pos c0]
    rfl
  rw [if_pos (by simpa using c0), nI_1]
  rw [f_X6_clauseSpelled_2, if_neg (show ¬ (8 : Int32) ≤ nI 1 by decide), show f_X6_clauseWord (nI 1) = 1 by decide, spell_c (w := 1) (by decide) h ha hab hb, Option.bind_some]
  by_cases c1 : mt tx 1 a b = true
  · rw [if_neg (by rw [c1]; decide)]
    unfold c_w
    rw [if_neg c0, if_pos c1]
    rfl
  rw [if_pos (by simpa using c1), nI_1]
  rw [f_X6_clauseSpelled_2, if_neg (show ¬ (8 : Int32) ≤ nI 2 by decide), show f_X6_clauseWord (nI 2) = 2 by decide, spell_c (w := 2) (by decide) h ha hab hb, Option.bind_some]
  by_cases c2 : mt tx 2 a b = true
  · rw [if_neg (by rw [c2]; decide)]
    unfold c_w
    rw [if_neg c0, if_neg c1, if_pos c2]
    rfl
  rw [if_pos (by simpa using c2), nI_1]
  rw [f_X6_clauseSpelled_2, if_neg (show ¬ (8 : Int32) ≤ nI 3 by decide), show f_X6_clauseWord (nI 3) = 3 by decide, spell_c (w := 3) (by decide) h ha hab hb, Option.bind_some]
  by_cases c3 : mt tx 3 a b = true
  · rw [if_neg (by rw [c3]; decide)]
    unfold c_w
    rw [if_neg c0, if_neg c1, if_neg c2, if_pos c3]
    rfl
  rw [if_pos (by simpa using c3), nI_1]
  rw [f_X6_clauseSpelled_2, if_neg (show ¬ (8 : Int32) ≤ nI 4 by decide), show f_X6_clauseWord (nI 4) = 4 by decide, spell_c (w := 4) (by decide) h ha hab hb, Option.bind_some]
  by_cases c4 : mt tx 4 a b = true
  · rw [if_neg (by rw [c4]; decide)]
    unfold c_w
    rw [if_neg c0, if_neg c1, if_neg c2, if_neg c3, if_pos c4]
    rfl
  rw [if_pos (by simpa using c4), nI_1]
  rw [f_X6_clauseSpelled_2, if_neg (show ¬ (8 : Int32) ≤ nI 5 by decide), show f_X6_clauseWord (nI 5) = 5 by decide, spell_c (w := 5) (by decide) h ha hab hb, Option.bind_some]
  by_cases c5 : mt tx 5 a b = true
  · rw [if_neg (by rw [c5]; decide)]
    unfold c_w
    rw [if_neg c0, if_neg c1, if_neg c2, if_neg c3, if_neg c4, if_pos c5]
    rfl
  rw [if_pos (by simpa using c5), nI_1]
  rw [f_X6_clauseSpelled_2, if_neg (show ¬ (8 : Int32) ≤ nI 6 by decide), show f_X6_clauseWord (nI 6) = 6 by decide, spell_c (w := 6) (by decide) h ha hab hb, Option.bind_some]
  by_cases c6 : mt tx 6 a b = true
  · rw [if_neg (by rw [c6]; decide)]
    unfold c_w
    rw [if_neg c0, if_neg c1, if_neg c2, if_neg c3, if_neg c4, if_neg c5, if_pos c6]
    rfl
  rw [if_pos (by simpa using c6), nI_1]
  rw [f_X6_clauseSpelled_2, if_neg (show ¬ (8 : Int32) ≤ nI 7 by decide), show f_X6_clauseWord (nI 7) = 7 by decide, spell_c (w := 7) (by decide) h ha hab hb, Option.bind_some]
  by_cases c7 : mt tx 7 a b = true
  · rw [if_neg (by rw [c7]; decide)]
    unfold c_w
    rw [if_neg c0, if_neg c1, if_neg c2, if_neg c3, if_neg c4, if_neg c5, if_neg c6, if_pos c7]
    rfl
  rw [if_pos (by simpa using c7), nI_1]
  rw [f_X6_clauseSpelled_2, if_pos (show (8 : Int32) ≤ nI (7 + 1) by decide)]
  unfold c_w
  rw [if_neg c0, if_neg c1, if_neg c2, if_neg c3, if_neg c4, if_neg c5, if_neg c6, if_neg c7]
theorem ow_c (h : TC tx t I) (ha : I 39 2 = nI a) (hab : a ≤ b) (hb : b ≤ t) : f_X5_wordSpelled (nI b) I = some (or_w tx a b) := by
  unfold f_X5_wordSpelled
  show f_X5_wordSpelled_2 (994 + 1 + 1 + 1 + 1 + 1 + 1) (nI b) (nI 0) I = _
  rw [f_X5_wordSpelled_2, if_neg (show ¬ (5 : Int32) ≤ nI 0 by decide), show f_X5_orderWord (nI 0) = 13 by decide, spell_c (w := 13) (by decide) h ha hab hb, Option.bind_some]
  by_cases c0 : mt tx 13 a b = true
  · rw [if_neg (by rw [c0]; decide)]
    unfold or_w
    rw [if_pos c0]
    rfl
  rw [if_pos (by simpa using c0), nI_1]
  rw [f_X5_wordSpelled_2, if_neg (show ¬ (5 : Int32) ≤ nI 1 by decide), show f_X5_orderWord (nI 1) = 14 by decide, spell_c (w := 14) (by decide) h ha hab hb, Option.bind_some]
  by_cases c1 : mt tx 14 a b = true
  · rw [if_neg (by rw [c1]; decide)]
    unfold or_w
    rw [if_neg c0, if_pos c1]
    rfl
  rw [if_pos (by simpa using c1), nI_1]
  rw [f_X5_wordSpelled_2, if_neg (show ¬ (5 : Int32) ≤ nI 2 by decide), show f_X5_orderWord (nI 2) = 15 by decide, spell_c (w := 15) (by decide) h ha hab hb, Option.bind_some]
  by_cases c2 : mt tx 15 a b = true
  · rw [if_neg (by rw [c2]; decide)]
    unfold or_w
    rw [if_neg c0, if_neg c1, if_pos c2]
    rfl
  rw [if_pos (by simpa using c2), nI_1]
  rw [f_X5_wordSpelled_2, if_neg (show ¬ (5 : Int32) ≤ nI 3 by decide), show f_X5_orderWord (nI 3) = 16 by decide, spell_c (w := 16) (by decide) h ha hab hb, Option.bind_some]
  by_cases c3 : mt tx 16 a b = true
  · rw [if_neg (by rw [c3]; decide)]
    unfold or_w
    rw [if_neg c0, if_neg c1, if_neg c2, if_pos c3]
    rfl
  rw [if_pos (by simpa using c3), nI_1]
  rw [f_X5_wordSpelled_2, if_neg (show ¬ (5 : Int32) ≤ nI 4 by decide), show f_X5_orderWord (nI 4) = 17 by decide, spell_c (w := 17) (by decide) h ha hab hb, Option.bind_some]
  by_cases c4 : mt tx 17 a b = true
  · rw [if_neg (by rw [c4]; decide)]
    unfold or_w
    rw [if_neg c0, if_neg c1, if_neg c2, if_neg c3, if_pos c4]
    rfl
  rw [if_pos (by simpa using c4), nI_1]
  rw [f_X5_wordSpelled_2, if_pos (show (5 : Int32) ≤ nI (4 + 1) by decide)]
  unfold or_w
  rw [if_neg c0, if_neg c1, if_neg c2, if_neg c3, if_neg c4]
theorem ca_c (h : TC tx t I) (ha : I 39 2 = nI a) (hab : a ≤ b) (hb : b ≤ t) : f_X6_cancelSpelled (nI b) I = some (ca_w tx a b) := by
  unfold f_X6_cancelSpelled ca_w
  rw [spell_c (w := 8) (by decide) h ha hab hb, spell_c (w := 9) (by decide) h ha hab hb, spell_c (w := 10) (by decide) h ha hab hb]
  simp only [Option.bind_some]
  by_cases c0 : mt tx 8 a b = true
  · simp [c0]
  by_cases c1 : mt tx 9 a b = true
  · simp [c0, c1]
  by_cases c2 : mt tx 10 a b = true
  · simp [c0, c1, c2]
  simp [c0, c1, c2]
theorem ye_c (h : TC tx t I) (ha : I 39 2 = nI a) (hab : a ≤ b) (hb : b ≤ t) : f_X6_yesSpelled (nI b) I = some (ye_w tx a b) := by
  unfold f_X6_yesSpelled ye_w
  rw [spell_c (w := 11) (by decide) h ha hab hb, spell_c (w := 12) (by decide) h ha hab hb]
  simp only [Option.bind_some]
  by_cases c0 : mt tx 11 a b = true
  · simp [c0]
  by_cases c1 : mt tx 12 a b = true
  · simp [c0, c1]
  simp [c0, c1]
theorem cw_m (h : TM tx t I) (h17 : I 87 17 = nI a) (h18 : I 87 18 = nI (b - a)) (hab : a ≤ b) (hb : b ≤ t) (hl : ∀ k, a ≤ k → k < b → is_le tx k = true) : f_X10_clauseOf I = some (c_w tx a b) := by
  have w0 : f_X10_isWord ((((f_X10_word5 18 9 14 7 5) * (32 : Int64)) + (114 : Int64)) - (96 : Int64)) 6 I = some (mt tx 0 a b) := isw_m (w := 0) (n := 6) (by decide) h h17 h18 hab hb hl (by decide) (by decide +kernel)
  have w1 : f_X10_isWord (f_X10_word5 0 14 5 1 18) 4 I = some (mt tx 1 a b) := isw_m (w := 1) (n := 4) (by decide) h h17 h18 hab hb hl (by decide) (by decide +kernel)
  have w2 : f_X10_isWord (f_X10_word5 0 13 15 19 20) 4 I = some (mt tx 2 a b) := isw_m (w := 2) (n := 4) (by decide) h h17 h18 hab hb hl (by decide) (by decide +kernel)
  have w3 : f_X10_isWord (((((((f_X10_word5 13 5 1 19 21) * (32 : Int64)) + (114 : Int64)) - (96 : Int64)) * (32 : Int64)) + (101 : Int64)) - (96 : Int64)) 7 I = some (mt tx 3 a b) := isw_m (w := 3) (n := 7) (by decide) h h17 h18 hab hb hl (by decide) (by decide +kernel)
  have w4 : f_X10_isWord (f_X10_word5 0 7 1 13 5) 4 I = some (mt tx 4 a b) := isw_m (w := 4) (n := 4) (by decide) h h17 h18 hab hb hl (by decide) (by decide +kernel)
  have w5 : f_X10_isWord ((((f_X10_word5 3 1 14 3 5) * (32 : Int64)) + (108 : Int64)) - (96 : Int64)) 6 I = some (mt tx 5 a b) := isw_m (w := 5) (n := 6) (by decide) h h17 h18 hab hb hl (by decide) (by decide +kernel)
  have w6 : f_X10_isWord (f_X10_word5 0 4 15 23 14) 4 I = some (mt tx 6 a b) := isw_m (w := 6) (n := 4) (by decide) h h17 h18 hab hb hl (by decide) (by decide +kernel)
  have w7 : f_X10_isWord (f_X10_word5 21 14 4 5 18) 5 I = some (mt tx 7 a b) := isw_m (w := 7) (n := 5) (by decide) h h17 h18 hab hb hl (by decide) (by decide +kernel)
  unfold f_X10_clauseOf c_w
  rw [w0, w1, w2, w3, w4, w5, w6, w7]
  simp only [Option.bind_some]
  by_cases c0 : mt tx 0 a b = true
  · simp [c0]
  by_cases c1 : mt tx 1 a b = true
  · simp [c0, c1]
  by_cases c2 : mt tx 2 a b = true
  · simp [c0, c1, c2]
  by_cases c3 : mt tx 3 a b = true
  · simp [c0, c1, c2, c3]
  by_cases c4 : mt tx 4 a b = true
  · simp [c0, c1, c2, c3, c4]
  by_cases c5 : mt tx 5 a b = true
  · simp [c0, c1, c2, c3, c4, c5]
  by_cases c6 : mt tx 6 a b = true
  · simp [c0, c1, c2, c3, c4, c5, c6]
  by_cases c7 : mt tx 7 a b = true
  · simp [c0, c1, c2, c3, c4, c5, c6, c7]
  simp [c0, c1, c2, c3, c4, c5, c6, c7]
theorem ow_m (h : TM tx t I) (h17 : I 87 17 = nI a) (h18 : I 87 18 = nI (b - a)) (hab : a ≤ b) (hb : b ≤ t) (hl : ∀ k, a ≤ k → k < b → is_le tx k = true) : f_X10_orderWord I = some (or_w tx a b) := by
  have w13 : f_X10_isWord (f_X10_word5 20 1 2 12 5) 5 I = some (mt tx 13 a b) := isw_m (w := 13) (n := 5) (by decide) h h17 h18 hab hb hl (by decide) (by decide +kernel)
  have w14 : f_X10_isWord (f_X10_word5 0 0 23 15 14) 3 I = some (mt tx 14 a b) := isw_m (w := 14) (n := 3) (by decide) h h17 h18 hab hb hl (by decide) (by decide +kernel)
  have w15 : f_X10_isWord (f_X10_word5 0 4 9 6 6) 4 I = some (mt tx 15 a b) := isw_m (w := 15) (n := 4) (by decide) h h17 h18 hab hb hl (by decide) (by decide +kernel)
  have w16 : f_X10_isWord (f_X10_word5 0 0 6 15 18) 3 I = some (mt tx 16 a b) := isw_m (w := 16) (n := 3) (by decide) h h17 h18 hab hb hl (by decide) (by decide +kernel)
  have w17 : f_X10_isWord (f_X10_word5 0 0 13 5 20) 3 I = some (mt tx 17 a b) := isw_m (w := 17) (n := 3) (by decide) h h17 h18 hab hb hl (by decide) (by decide +kernel)
  unfold f_X10_orderWord or_w
  rw [w13, w14, w15, w16, w17]
  simp only [Option.bind_some]
  by_cases c0 : mt tx 13 a b = true
  · simp [c0]
  by_cases c1 : mt tx 14 a b = true
  · simp [c0, c1]
  by_cases c2 : mt tx 15 a b = true
  · simp [c0, c1, c2]
  by_cases c3 : mt tx 16 a b = true
  · simp [c0, c1, c2, c3]
  by_cases c4 : mt tx 17 a b = true
  · simp [c0, c1, c2, c3, c4]
  simp [c0, c1, c2, c3, c4]
theorem ca_m (h : TM tx t I) (h17 : I 87 17 = nI a) (h18 : I 87 18 = nI (b - a)) (hab : a ≤ b) (hb : b ≤ t) (hl : ∀ k, a ≤ k → k < b → is_le tx k = true) : f_X10_valueOf 5 I = some (ca_w tx a b) := by
  have w8 : f_X10_isWord (f_X10_word5 0 14 15 14 5) 4 I = some (mt tx 8 a b) := isw_m (w := 8) (n := 4) (by decide) h h17 h18 hab hb hl (by decide) (by decide +kernel)
  have w9 : f_X10_isWord (f_X10_word5 16 1 9 18 19) 5 I = some (mt tx 9 a b) := isw_m (w := 9) (n := 5) (by decide) h h17 h18 hab hb hl (by decide) (by decide +kernel)
  have w10 : f_X10_isWord (f_X10_word5 0 0 20 15 16) 3 I = some (mt tx 10 a b) := isw_m (w := 10) (n := 3) (by decide) h h17 h18 hab hb hl (by decide) (by decide +kernel)
  unfold f_X10_valueOf ca_w
  rw [if_pos (show (5 : Int32) = 5 from rfl), w8, w9, w10]
  simp only [Option.bind_some]
  by_cases c0 : mt tx 8 a b = true
  · simp [c0]
  by_cases c1 : mt tx 9 a b = true
  · simp [c0, c1]
  by_cases c2 : mt tx 10 a b = true
  · simp [c0, c1, c2]
  simp [c0, c1, c2]
theorem ye_m {x : Int32} (hx : ¬ x = 5) (h : TM tx t I) (h17 : I 87 17 = nI a) (h18 : I 87 18 = nI (b - a)) (hab : a ≤ b) (hb : b ≤ t) (hl : ∀ k, a ≤ k → k < b → is_le tx k = true) : f_X10_valueOf x I = some (ye_w tx a b) := by
  have w11 : f_X10_isWord (f_X10_word5 0 0 25 5 19) 3 I = some (mt tx 11 a b) := isw_m (w := 11) (n := 3) (by decide) h h17 h18 hab hb hl (by decide) (by decide +kernel)
  have w12 : f_X10_isWord (f_X10_word5 0 0 0 14 15) 2 I = some (mt tx 12 a b) := isw_m (w := 12) (n := 2) (by decide) h h17 h18 hab hb hl (by decide) (by decide +kernel)
  unfold f_X10_valueOf ye_w
  rw [if_neg hx, w11, w12]
  simp only [Option.bind_some]
  by_cases c0 : mt tx 11 a b = true
  · simp [c0]
  by_cases c1 : mt tx 12 a b = true
  · simp [c0, c1]
  simp [c0, c1]
end WORDS
