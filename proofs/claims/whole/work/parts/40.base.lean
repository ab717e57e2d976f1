/-! THE PURE PART: tables alone -/
theorem u_eq {α : Type} {f : Nat → Nat → α} {a k b j : Nat} {x : α} (h1 : b = a) (h2 : j = k) : g_u f a k x b j = x := by
  subst h1; subst h2
  simp [g_u]
theorem u_na {α : Type} {f : Nat → Nat → α} {a k b j : Nat} {x : α} (h : b ≠ a) : g_u f a k x b j = f b j := by
  simp [g_u, h]
theorem u_nk {α : Type} {f : Nat → Nat → α} {a k b j : Nat} {x : α} (h : j ≠ k) : g_u f a k x b j = f b j := by
  unfold g_u
  by_cases e : b = a
  · subst e
    simp [h]
  · simp [e]
theorem u_ap {α : Type} (f : Nat → Nat → α) (a k b j : Nat) (x : α) : g_u f a k x b j = if b = a ∧ j = k then x else f b j := by
  by_cases e : b = a
  · by_cases e2 : j = k
    · rw [u_eq e e2, if_pos ⟨e, e2⟩]
    · rw [u_nk e2, if_neg (fun q => e2 q.2)]
  · rw [u_na e, if_neg (fun q => e q.1)]
theorem c_lt0 (x y : Int64) : lg_cmp x y < 0 ↔ x.toInt < y.toInt := by
  rw [← Int64.lt_iff_toInt_lt]
  unfold lg_cmp
  by_cases h : x > y
  · rw [if_pos h]
    have : ¬ x < y := Int64.not_lt.mpr (Int64.le_of_lt h)
    simp [this]
  · rw [if_neg h]
    by_cases e : x = y
    · rw [if_pos e]
      subst e
      simp
    · rw [if_neg e]
      have : x < y := Int64.lt_of_le_of_ne (Int64.not_lt.mp h) e
      simp [this]
theorem c_gt0 (x y : Int64) : 0 < lg_cmp x y ↔ y.toInt < x.toInt := by
  rw [← Int64.lt_iff_toInt_lt]
  unfold lg_cmp
  by_cases h : x > y
  · rw [if_pos h]
    simp [show y < x from h]
  · rw [if_neg h]
    have h' : ¬ y < x := h
    by_cases e : x = y
    · rw [if_pos e]
      simp [h']
    · rw [if_neg e]
      simp [h']
theorem c_le0 (x y : Int64) : lg_cmp x y ≤ 0 ↔ x.toInt ≤ y.toInt := by
  have h := c_gt0 x y
  rw [← Int32.not_lt, h]
  omega
theorem c_ge0 (x y : Int64) : 0 ≤ lg_cmp x y ↔ y.toInt ≤ x.toInt := by
  have h := c_lt0 x y
  rw [← Int32.not_lt, h]
  omega
theorem c_eq0 (x y : Int64) : lg_cmp x y = 0 ↔ x.toInt = y.toInt := by
  have h1 := c_le0 x y
  have h2 := c_ge0 x y
  constructor
  · intro h
    rw [h] at h1 h2
    have := h1.mp (Int32.le_refl _)
    have := h2.mp (Int32.le_refl _)
    omega
  · intro h
    exact Int32.le_antisymm (h1.mpr (by omega)) (h2.mpr (by omega))
theorem w_in (x a b : Int32) : f_X9_within x a b = decide (a.toInt ≤ x.toInt ∧ x.toInt ≤ b.toInt) := by
  unfold f_X9_within
  simp only [Int32.lt_iff_toInt_lt]
  by_cases h1 : x.toInt < a.toInt
  · rw [if_pos h1]
    symm
    exact decide_eq_false (by omega)
  · rw [if_neg h1]
    by_cases h2 : b.toInt < x.toInt
    · rw [if_pos h2]
      symm
      exact decide_eq_false (by omega)
    · rw [if_neg h2]
      symm
      exact decide_eq_true (by omega)
theorem m_in (x a b : Int64) : f_X10_in x a b = decide (a.toInt ≤ x.toInt ∧ x.toInt ≤ b.toInt) := by
  unfold f_X10_in
  simp only [c_lt0, c_gt0]
  by_cases h1 : x.toInt < a.toInt
  · rw [if_pos h1]
    symm
    exact decide_eq_false (by omega)
  · rw [if_neg h1]
    by_cases h2 : b.toInt < x.toInt
    · rw [if_pos h2]
      symm
      exact decide_eq_false (by omega)
    · rw [if_neg h2]
      symm
      exact decide_eq_true (by omega)
theorem b_m (b : Bool) : f_X10_bit (g_b b) = if b then 1 else 0 := by cases b <;> rfl
theorem b_c (b : Bool) : f_X9_asNumber (g_b b) = if b then 1 else 0 := by cases b <;> rfl
theorem b_x (x : Int32) : f_X10_bit x = f_X9_asNumber x := rfl
theorem gin_nI {j n : Nat} (h : j < n) (hn : n < 2 ^ 31) : g_in (nI j) n = true := decide_eq_true (nI_in h hn)
theorem gin_of {x : Int32} {n : Nat} (h : g_in x n = true) (hn : n < 2 ^ 31) : ∃ j, j < n ∧ x = nI j := by
  have h1 := g_in_vp h
  have h2 := vp_in_iff.mp h1
  obtain ⟨j, hj, rfl⟩ := nI_of (x := x) (fun q => h1 (Or.inl q))
  refine ⟨j, ?_, rfl⟩
  rw [nI_toInt hj] at h2
  omega
theorem nI_k {j : Nat} (h : j < 2 ^ 31) : (nI j).toNatClampNeg = j := nI_clamp h
/-- x is among the first n numbers -/
theorem nI_lt_of {x : Int32} {n : Nat} (h0 : 0 ≤ x.toInt) (h : x.toInt < n) : ∃ j, j < n ∧ x = nI j := by
  obtain ⟨j, hj, rfl⟩ := nI_of (x := x) (by rw [Int32.lt_iff_toInt_lt]; simp; omega)
  rw [nI_toInt hj] at h
  exact ⟨j, by omega, rfl⟩
theorem t_add {x y : Int32} (h1 : -2147483648 ≤ x.toInt + y.toInt) (h2 : x.toInt + y.toInt < 2147483648) : (x + y).toInt = x.toInt + y.toInt := by
  rw [Int32.toInt_add, Int.bmod_eq_of_le (by omega) (by omega)]
theorem t_sub {x y : Int32} (h1 : -2147483648 ≤ x.toInt - y.toInt) (h2 : x.toInt - y.toInt < 2147483648) : (x - y).toInt = x.toInt - y.toInt := by
  rw [Int32.toInt_sub, Int.bmod_eq_of_le (by omega) (by omega)]
theorem t_mul {x y : Int32} (h1 : -2147483648 ≤ x.toInt * y.toInt) (h2 : x.toInt * y.toInt < 2147483648) : (x * y).toInt = x.toInt * y.toInt := by
  rw [Int32.toInt_mul, Int.bmod_eq_of_le (by omega) (by omega)]
theorem t_neg {x : Int32} (h1 : -2147483648 < x.toInt) : (-x).toInt = -x.toInt := by
  have := x.toInt_lt
  rw [Int32.toInt_neg, Int.bmod_eq_of_le (by omega) (by omega)]
theorem l_add {x y : Int64} (h1 : -9223372036854775808 ≤ x.toInt + y.toInt) (h2 : x.toInt + y.toInt < 9223372036854775808) : (x + y).toInt = x.toInt + y.toInt := by
  rw [Int64.toInt_add, Int.bmod_eq_of_le (by omega) (by omega)]
theorem l_sub {x y : Int64} (h1 : -9223372036854775808 ≤ x.toInt - y.toInt) (h2 : x.toInt - y.toInt < 9223372036854775808) : (x - y).toInt = x.toInt - y.toInt := by
  rw [Int64.toInt_sub, Int.bmod_eq_of_le (by omega) (by omega)]
theorem l_mul {x y : Int64} (h1 : -9223372036854775808 ≤ x.toInt * y.toInt) (h2 : x.toInt * y.toInt < 9223372036854775808) : (x * y).toInt = x.toInt * y.toInt := by
  rw [Int64.toInt_mul, Int.bmod_eq_of_le (by omega) (by omega)]
/-- within, as bounds -/
abbrev q_b (x : Int32) (lo hi : Int) : Prop := lo ≤ x.toInt ∧ x.toInt ≤ hi
/-- one iron, of both -/
def q_span (I : gI) (i k : Nat) : Prop := (I (4 + 3 * i) k = -1 ∧ I 96 (3 * i + k) = 0) ∨ (I 96 (3 * i + k) = 1 ∧ I (4 + 3 * i) k = I 97 (3 * i + k) ∧ I (5 + 3 * i) k = I 98 (3 * i + k) ∧ 0 ≤ (I 97 (3 * i + k)).toInt ∧ (I 97 (3 * i + k)).toInt ≤ (I 98 (3 * i + k)).toInt ∧ (I 98 (3 * i + k)).toInt ≤ 9999)
def q_iron (I : gI) (i : Nat) : Prop :=
  (I (3 + 3 * i) 0 = I 88 i ∧ I (3 + 3 * i) 1 = I 89 i ∧ I (3 + 3 * i) 2 = I 90 i ∧ I (3 + 3 * i) 3 = I 91 i ∧ I (3 + 3 * i) 4 = I 92 i ∧ I (3 + 3 * i) 5 = I 93 i ∧ I (3 + 3 * i) 6 = I 94 i ∧ I (3 + 3 * i) 7 = I 95 i) ∧
  (q_b (I 88 i) 0 1 ∧ q_b (I 89 i) (-600) 600 ∧ q_b (I 90 i) (-600) 600 ∧ q_b (I 91 i) 2 60 ∧ q_b (I 92 i) 1 59 ∧ q_b (I 93 i) 0 9 ∧ q_b (I 94 i) 0 1 ∧ q_b (I 95 i) 0 1) ∧
  (∀ k, k < 3 → q_span I i k) ∧
  ((∃ k, k < 3 ∧ I 96 (3 * i + k) = 1) → f_X2_isRinger (3 + 3 * i) I = false)
def q_clay (I : gI) (n : Nat) : Prop := I 1 1 = nI n ∧ I 87 0 = nI n ∧ n ≤ 12 ∧ ∀ i, i < n → q_iron I i
def q_text (I : gI) : Prop := ∃ t, t ≤ 100 ∧ I 39 1 = nI t ∧ I 87 13 = nI t ∧ I 39 4 = I 87 16 ∧ ∀ k, k < t → I 40 k = I 99 k ∧ q_b (I 99 k) 0 255
def q_hi (k : Nat) : Int := if k < 2 then 9 else if k = 2 then 12 else if k = 3 then 20 else if k = 4 then 99 else if k = 5 then 2 else 1
def q_rules (I : gI) : Prop := ∀ v, v < 6 → ∀ k, k < 8 → I (43 + 2 * v) k = I 100 (8 * v + k) ∧ q_b (I 100 (8 * v + k)) 0 (q_hi k)
def q_wts (I : gI) : Prop := ∀ k, k < 30 → I 61 k = I 105 k ∧ q_b (I 105 k) 0 60
def q_order (I : gI) : Prop := ∃ w, 1 ≤ w ∧ w ≤ 5 ∧ I 67 1 = nI w ∧ I 87 43 = nI w ∧ ∀ k, k < w → I 68 k = I 114 k ∧ q_b (I 114 k) 0 4
def q_one (I : gI) (k : Nat) : Prop :=
  (I (117 + 2 * k) 0 = I 108 k ∧ q_b (I 108 k) 0 5) ∧ (I (117 + 2 * k) 1 = I 109 k ∧ q_b (I 109 k) 0 5) ∧ I 108 k ≠ I 109 k ∧ (I (117 + 2 * k) 2 = I 110 k ∧ q_b (I 110 k) 0 2) ∧ (I (117 + 2 * k) 5 = I 111 k ∧ q_b (I 111 k) 0 1) ∧
  ∃ e, e ≤ 40 ∧ I (117 + 2 * k) 4 = nI e ∧ I 112 k = nI e ∧ ∀ j, j < e → I (118 + 2 * k) j = I 113 (40 * k + j) ∧ q_b (I 113 (40 * k + j)) (-99) 99
def q_match (m : Nat) (I : gI) : Prop := m ≤ 24 ∧ I 65 1 = nI m ∧ I 87 32 = nI m ∧ ∀ k, k < m → q_one I k
def q_fresh (m : Nat) (I : gI) (J : gJ) : Prop := ∀ b, g_n m ≤ b → ∀ k, I b k = 0 ∧ J b k = 0
def Inv (m : Nat) (I : gI) (J : gJ) : Prop := (∃ n, q_clay I n) ∧ q_text I ∧ q_rules I ∧ q_wts I ∧ q_order I ∧ q_match m I ∧ q_fresh m I J
/-- cells that hold nothing from one call to the next -/
def scr (m a k : Nat) : Prop := (a = 39 ∧ (k = 2 ∨ k = 3)) ∨ (42 ≤ a ∧ a < 54 ∧ a % 2 = 0) ∨ (54 ≤ a ∧ a ≤ 57) ∨ (62 ≤ a ∧ a ≤ 64) ∨ (a = 65 ∧ k ≠ 1) ∨ (a = 67 ∧ k = 2) ∨ (69 ≤ a ∧ a ≤ 86) ∨ (a = 87 ∧ k ≠ 0 ∧ k ≠ 13 ∧ k ≠ 16 ∧ k ≠ 32 ∧ k ≠ 43) ∨ (101 ≤ a ∧ a ≤ 104) ∨ a = 106 ∨ a = 107 ∨ a = 115 ∨ a = 116 ∨ (117 ≤ a ∧ a < 117 + 2 * m ∧ a % 2 = 1 ∧ 6 ≤ k)
def sm (m : Nat) (I I' : gI) : Prop := ∀ a k, ¬ scr m a k → I' a k = I a k
theorem sm.rfl {m : Nat} {I : gI} : sm m I I := fun _ _ _ => Eq.refl _
theorem sm.tr {m : Nat} {I I' I'' : gI} (h : sm m I I') (h2 : sm m I' I'') : sm m I I'' := fun a k q => (h2 a k q).trans (h a k q)
theorem sm.u {m : Nat} {I I' : gI} {a k : Nat} {x : Int32} (h : sm m I I') (hs : scr m a k) : sm m I (g_u I' a k x) := by
  intro b j q
  rw [u_ap, if_neg (fun e => q (by rw [e.1, e.2]; exact hs))]
  exact h b j q
def sj (J J' : gJ) : Prop := ∀ b, 117 ≤ b → ∀ k, J' b k = J b k
theorem sj.rfl {J : gJ} : sj J J := fun _ _ _ => Eq.refl _
theorem sj.tr {J J' J'' : gJ} (h : sj J J') (h2 : sj J' J'') : sj J J'' := fun a q k => (h2 a q k).trans (h a q k)
theorem sj.u {J J' : gJ} {a k : Nat} {x : Int64} (h : sj J J') (hs : a < 117) : sj J (g_u J' a k x) := by
  intro b hb j
  rw [u_na (by omega)]
  exact h b hb j
theorem q_iron.sm {m : Nat} {I I' : gI} {i : Nat} (hi : i < 12) (h : q_iron I i) (s : sm m I I') : q_iron I' i := by
  have e : ∀ a, (3 ≤ a ∧ a < 39) ∨ (88 ≤ a ∧ a ≤ 98) → ∀ k, I' a k = I a k := fun a ha k => s a k (by unfold scr; omega)
  unfold q_iron q_span f_X2_isRinger f_X2_square at *
  simp only [e 88 (by omega), e 89 (by omega), e 90 (by omega), e 91 (by omega), e 92 (by omega), e 93 (by omega), e 94 (by omega), e 95 (by omega), e 96 (by omega), e 97 (by omega), e 98 (by omega), e (3 + 3 * i) (by omega), e (4 + 3 * i) (by omega), e (5 + 3 * i) (by omega)]
  exact h
theorem q_clay.sm {m : Nat} {I I' : gI} {n : Nat} (h : q_clay I n) (s : sm m I I') : q_clay I' n := by
  obtain ⟨h1, h2, h3, h4⟩ := h
  refine ⟨?_, ?_, h3, fun i hi => (h4 i hi).sm (by omega) s⟩
  · rw [s 1 1 (by unfold scr; omega)]; exact h1
  · rw [s 87 0 (by unfold scr; omega)]; exact h2
theorem q_text.sm {m : Nat} {I I' : gI} (h : q_text I) (s : sm m I I') : q_text I' := by
  obtain ⟨t, h1, h2, h3, h4, h5⟩ := h
  refine ⟨t, h1, ?_, ?_, ?_, fun k hk => ?_⟩
  · rw [s 39 1 (by unfold scr; omega)]; exact h2
  · rw [s 87 13 (by unfold scr; omega)]; exact h3
  · rw [s 39 4 (by unfold scr; omega), s 87 16 (by unfold scr; omega)]; exact h4
  · rw [s 40 k (by unfold scr; omega), s 99 k (by unfold scr; omega)]; exact h5 k hk
theorem q_rules.sm {m : Nat} {I I' : gI} (h : q_rules I) (s : sm m I I') : q_rules I' := by
  intro v hv k hk
  rw [s (43 + 2 * v) k (by unfold scr; omega), s 100 (8 * v + k) (by unfold scr; omega)]
  exact h v hv k hk
theorem q_wts.sm {m : Nat} {I I' : gI} (h : q_wts I) (s : sm m I I') : q_wts I' := by
  intro k hk
  rw [s 61 k (by unfold scr; omega), s 105 k (by unfold scr; omega)]
  exact h k hk
theorem q_order.sm {m : Nat} {I I' : gI} (h : q_order I) (s : sm m I I') : q_order I' := by
  obtain ⟨w, h1, h2, h3, h4, h5⟩ := h
  refine ⟨w, h1, h2, ?_, ?_, fun k hk => ?_⟩
  · rw [s 67 1 (by unfold scr; omega)]; exact h3
  · rw [s 87 43 (by unfold scr; omega)]; exact h4
  · rw [s 68 k (by unfold scr; omega), s 114 k (by unfold scr; omega)]; exact h5 k hk
theorem q_one.sm {m : Nat} {I I' : gI} {k : Nat} (h : q_one I k) (s : sm m I I') : q_one I' k := by
  have e : ∀ a j, (108 ≤ a ∧ a ≤ 113) ∨ (117 ≤ a ∧ (a % 2 = 0 ∨ j < 6)) → I' a j = I a j := fun a j ha => s a j (by unfold scr; omega)
  obtain ⟨⟨h1, h2⟩, ⟨h3, h4⟩, h5, ⟨h6, h7⟩, ⟨h8, h9⟩, w, h10, h11, h12, h13⟩ := h
  unfold q_one
  rw [e 108 k (by omega), e 109 k (by omega), e 110 k (by omega), e 111 k (by omega), e (117 + 2 * k) 0 (by omega), e (117 + 2 * k) 1 (by omega), e (117 + 2 * k) 2 (by omega), e (117 + 2 * k) 5 (by omega)]
  refine ⟨⟨h1, h2⟩, ⟨h3, h4⟩, h5, ⟨h6, h7⟩, ⟨h8, h9⟩, w, h10, ?_, ?_, fun j hj => ?_⟩
  · rw [e _ _ (by omega)]; exact h11
  · rw [e _ _ (by omega)]; exact h12
  · rw [e (118 + 2 * k) _ (by omega), e 113 _ (by omega)]; exact h13 j hj
theorem q_match.sm {m : Nat} {I I' : gI} (h : q_match m I) (s : sm m I I') : q_match m I' := by
  obtain ⟨h1, h2, h3, h4⟩ := h
  refine ⟨h1, ?_, ?_, fun k hk => (h4 k hk).sm s⟩
  · rw [s 65 1 (by unfold scr; omega)]; exact h2
  · rw [s 87 32 (by unfold scr; omega)]; exact h3
theorem q_fresh.sm {m : Nat} {I I' : gI} {J J' : gJ} (h : q_fresh m I J) (s : sm m I I') (sJ : sj J J') : q_fresh m I' J' := by
  intro b hb k
  have hb' : 117 + 2 * m ≤ b := hb
  rw [s b k (by unfold scr; omega), sJ b (by omega) k]
  exact h b hb k
theorem Inv.sm {m : Nat} {I I' : gI} {J J' : gJ} (h : Inv m I J) (s : sm m I I') (sJ : sj J J') : Inv m I' J' := by
  obtain ⟨⟨n, h1⟩, h2, h3, h4, h5, h6, h7⟩ := h
  exact ⟨⟨n, h1.sm s⟩, h2.sm s, h3.sm s, h4.sm s, h5.sm s, h6.sm s, h7.sm s sJ⟩
/-! the invariant at the start -/
theorem fr_lay {x1 x2 x3 x4 x5 x6 x7 : Int32} {I r : gI} (h : f_X10_layAct x1 x2 x3 x4 x5 x6 x7 I = some r) {b : Nat} (hb : b ≠ 105) (k : Nat) : r b k = I b k := by
  unfold f_X10_layAct at h
  repeat' split at h
  all_goals first | cases h | skip
  simp only [u_na hb]
theorem fr_285 : ∀ (fu : Nat) (x1 : Int32) (I r : gI), f_X10_init_285 fu x1 I = some r → ∀ b, 117 ≤ b → ∀ k, r b k = I b k := by
  intro fu
  induction fu with
  | zero => intro x1 I r h; cases h
  | succ fu ih =>
    intro x1 I r h b hb k
    unfold f_X10_init_285 at h
    split at h
    · cases h
      rw [u_na (by omega), u_na (by omega)]
    · simp only [Option.bind_eq_some_iff] at h
      obtain ⟨r3, h3, r5, h5, r7, h7, h⟩ := h
      rw [ih _ _ _ h b hb k, fr_lay h7 (by omega), fr_lay h5 (by omega), fr_lay h3 (by omega)]
theorem fr_250 (kk : Int32 → gI → Option gI) (hk : ∀ x I r, kk x I = some r → ∀ b, 117 ≤ b → ∀ k, r b k = I b k) : ∀ (fu : Nat) (x1 x2 : Int32) (I r : gI), f_X10_init_250 kk fu x1 x2 I = some r → ∀ b, 117 ≤ b → ∀ k, r b k = I b k := by
  intro fu
  induction fu with
  | zero => intro x1 x2 I r h; cases h
  | succ fu ih =>
    intro x1 x2 I r h b hb k
    unfold f_X10_init_250 at h
    split at h
    · exact hk _ _ _ h b hb k
    · split at h
      · rw [ih _ _ _ _ h b hb k, u_na (by omega)]
      · cases h
theorem fr_242 : ∀ (fu : Nat) (x1 : Int32) (I r : gI), f_X10_init_242 fu x1 I = some r → ∀ b, 117 ≤ b → ∀ k, r b k = I b k := by
  intro fu
  induction fu with
  | zero => intro x1 I r h; cases h
  | succ fu ih =>
    intro x1 I r h b hb k
    unfold f_X10_init_242 at h
    split at h
    · exact fr_285 _ _ _ _ h b hb k
    · exact fr_250 _ (fun x I r h => ih x I r h) _ _ _ _ _ h b hb k
theorem i0_rules : ∀ v, v < 6 → ∀ k, k < 8 → gI2 (43 + 2 * v) k = gI2 100 (8 * v + k) ∧ q_b (gI2 100 (8 * v + k)) 0 (q_hi k) := by decide +kernel
theorem i0_wts : ∀ k, k < 30 → gI2 61 k = gI2 105 k ∧ q_b (gI2 105 k) 0 60 := by decide +kernel
theorem i0_cells : gI2 1 1 = nI 0 ∧ gI2 87 0 = nI 0 ∧ gI2 39 1 = nI 0 ∧ gI2 87 13 = nI 0 ∧ gI2 39 4 = gI2 87 16 ∧ gI2 67 1 = nI 1 ∧ gI2 87 43 = nI 1 ∧ gI2 65 1 = nI 0 ∧ gI2 87 32 = nI 0 := by decide +kernel
theorem i0_order : ∀ k, k < 1 → gI2 68 k = gI2 114 k ∧ q_b (gI2 114 k) 0 4 := by decide +kernel
theorem Inv0 : Inv 0 gI2 gJz := by
  obtain ⟨h1, h2, h3, h4, h5, h6, h7, h8, h9⟩ := i0_cells
  refine ⟨⟨0, h1, h2, by decide, fun i hi => absurd hi (by omega)⟩, ⟨0, by decide, h3, h4, h5, fun k hk => absurd hk (by omega)⟩, i0_rules, i0_wts, ⟨1, by decide, by decide, h6, h7, i0_order⟩, ⟨by decide, h8, h9, fun k hk => absurd hk (by omega)⟩, fun b hb k => ⟨?_, rfl⟩⟩
  have hb' : 117 ≤ b := hb
  rw [fr_242 _ _ _ _ (show f_X10_init_242 g_fuel 0 _ = some gI2 from gI2_ok) b hb' k, u_na (by omega)]
  exact (g1_fresh b (by omega) k).1
/-! each piece of the invariant over its own cells -/
def R_clay (a k : Nat) : Prop := a = 1 ∨ (3 ≤ a ∧ a < 39) ∨ (a = 87 ∧ k = 0) ∨ (88 ≤ a ∧ a ≤ 98)
def R_text (a k : Nat) : Prop := (a = 39 ∧ (k = 1 ∨ k = 4)) ∨ a = 40 ∨ (a = 87 ∧ (k = 13 ∨ k = 16)) ∨ a = 99
def R_rules (a : Nat) : Prop := (43 ≤ a ∧ a ≤ 53 ∧ a % 2 = 1) ∨ a = 100
def R_wts (a : Nat) : Prop := a = 61 ∨ a = 105
def R_order (a k : Nat) : Prop := (a = 67 ∧ k = 1) ∨ a = 68 ∨ (a = 87 ∧ k = 43) ∨ a = 114
def R_match (a k : Nat) : Prop := (a = 65 ∧ k = 1) ∨ (a = 87 ∧ k = 32) ∨ (108 ≤ a ∧ a ≤ 113) ∨ (117 ≤ a ∧ (a % 2 = 0 ∨ k < 6))
def R_iron (i a k : Nat) : Prop := a = 3 + 3 * i ∨ a = 4 + 3 * i ∨ a = 5 + 3 * i ∨ (88 ≤ a ∧ a ≤ 95 ∧ k = i) ∨ (96 ≤ a ∧ a ≤ 98 ∧ 3 * i ≤ k ∧ k < 3 * i + 3)
def R_one (i a k : Nat) : Prop := (a = 117 + 2 * i ∧ k < 6) ∨ a = 118 + 2 * i ∨ (108 ≤ a ∧ a ≤ 112 ∧ k = i) ∨ (a = 113 ∧ 40 * i ≤ k ∧ k < 40 * i + 40)
theorem q_iron.cg {I I' : gI} {i : Nat} (h : q_iron I i) (s : ∀ a k, R_iron i a k → I' a k = I a k) : q_iron I' i := by
  have e1 : ∀ k, I' (3 + 3 * i) k = I (3 + 3 * i) k := fun k => s _ _ (by unfold R_iron; omega)
  have e4 : ∀ k, I' (4 + 3 * i) k = I (4 + 3 * i) k := fun k => s _ _ (by unfold R_iron; omega)
  have e5 : ∀ k, I' (5 + 3 * i) k = I (5 + 3 * i) k := fun k => s _ _ (by unfold R_iron; omega)
  have e2 : ∀ a, 88 ≤ a ∧ a ≤ 95 → I' a i = I a i := fun a ha => s _ _ (by unfold R_iron; omega)
  have e3 : ∀ a k, 96 ≤ a ∧ a ≤ 98 ∧ k < 3 → I' a (3 * i + k) = I a (3 * i + k) := fun a k ha => s _ _ (by unfold R_iron; omega)
  obtain ⟨h1, h2, h3, h4⟩ := h
  refine ⟨?_, ?_, fun k hk => ?_, fun hx => ?_⟩
  · simp only [e1, e2 88 (by omega), e2 89 (by omega), e2 90 (by omega), e2 91 (by omega), e2 92 (by omega), e2 93 (by omega), e2 94 (by omega), e2 95 (by omega)]
    exact h1
  · simp only [e2 88 (by omega), e2 89 (by omega), e2 90 (by omega), e2 91 (by omega), e2 92 (by omega), e2 93 (by omega), e2 94 (by omega), e2 95 (by omega)]
    exact h2
  · have := h3 k hk
    unfold q_span at this ⊢
    rw [e3 96 k (by omega), e3 97 k (by omega), e3 98 k (by omega), e4, e5]
    exact this
  · obtain ⟨k, hk, hk1⟩ := hx
    rw [e3 96 k (by omega)] at hk1
    have := h4 ⟨k, hk, hk1⟩
    unfold f_X2_isRinger f_X2_square at this ⊢
    simp only [e1]
    exact this
theorem q_clay.cg {I I' : gI} {n : Nat} (h : q_clay I n) (s : ∀ a k, R_clay a k → I' a k = I a k) : q_clay I' n := by
  obtain ⟨h1, h2, h3, h4⟩ := h
  refine ⟨?_, ?_, h3, fun i hi => (h4 i hi).cg fun a k q => s a k (by unfold R_iron at q; unfold R_clay; omega)⟩
  · rw [s 1 1 (by unfold R_clay; omega)]; exact h1
  · rw [s 87 0 (by unfold R_clay; omega)]; exact h2
theorem q_text.cg {I I' : gI} (h : q_text I) (s : ∀ a k, R_text a k → I' a k = I a k) : q_text I' := by
  obtain ⟨t, h1, h2, h3, h4, h5⟩ := h
  refine ⟨t, h1, ?_, ?_, ?_, fun k hk => ?_⟩
  · rw [s 39 1 (by unfold R_text; omega)]; exact h2
  · rw [s 87 13 (by unfold R_text; omega)]; exact h3
  · rw [s 39 4 (by unfold R_text; omega), s 87 16 (by unfold R_text; omega)]; exact h4
  · rw [s 40 k (by unfold R_text; omega), s 99 k (by unfold R_text; omega)]; exact h5 k hk
theorem q_rules.cg {I I' : gI} (h : q_rules I) (s : ∀ a k, R_rules a → I' a k = I a k) : q_rules I' := by
  intro v hv k hk
  rw [s (43 + 2 * v) k (by unfold R_rules; omega), s 100 (8 * v + k) (by unfold R_rules; omega)]
  exact h v hv k hk
theorem q_wts.cg {I I' : gI} (h : q_wts I) (s : ∀ a k, R_wts a → I' a k = I a k) : q_wts I' := by
  intro k hk
  rw [s 61 k (by unfold R_wts; omega), s 105 k (by unfold R_wts; omega)]
  exact h k hk
theorem q_order.cg {I I' : gI} (h : q_order I) (s : ∀ a k, R_order a k → I' a k = I a k) : q_order I' := by
  obtain ⟨w, h1, h2, h3, h4, h5⟩ := h
  refine ⟨w, h1, h2, ?_, ?_, fun k hk => ?_⟩
  · rw [s 67 1 (by unfold R_order; omega)]; exact h3
  · rw [s 87 43 (by unfold R_order; omega)]; exact h4
  · rw [s 68 k (by unfold R_order; omega), s 114 k (by unfold R_order; omega)]; exact h5 k hk
theorem q_one.cg {I I' : gI} {k : Nat} (h : q_one I k) (s : ∀ a j, R_one k a j → I' a j = I a j) : q_one I' k := by
  obtain ⟨⟨h1, h2⟩, ⟨h3, h4⟩, h5, ⟨h6, h7⟩, ⟨h8, h9⟩, w, h10, h11, h12, h13⟩ := h
  unfold q_one
  rw [s 108 k (by unfold R_one; omega), s 109 k (by unfold R_one; omega), s 110 k (by unfold R_one; omega), s 111 k (by unfold R_one; omega), s (117 + 2 * k) 0 (by unfold R_one; omega), s (117 + 2 * k) 1 (by unfold R_one; omega), s (117 + 2 * k) 2 (by unfold R_one; omega), s (117 + 2 * k) 5 (by unfold R_one; omega)]
  refine ⟨⟨h1, h2⟩, ⟨h3, h4⟩, h5, ⟨h6, h7⟩, ⟨h8, h9⟩, w, h10, ?_, ?_, fun j hj => ?_⟩
  · rw [s _ _ (by unfold R_one; omega)]; exact h11
  · rw [s _ _ (by unfold R_one; omega)]; exact h12
  · rw [s (118 + 2 * k) _ (by unfold R_one; omega), s 113 _ (by unfold R_one; omega)]; exact h13 j hj
theorem q_match.cg {m : Nat} {I I' : gI} (h : q_match m I) (s : ∀ a j, R_match a j → I' a j = I a j) : q_match m I' := by
  obtain ⟨h1, h2, h3, h4⟩ := h
  refine ⟨h1, ?_, ?_, fun k hk => (h4 k hk).cg fun a j q => s a j (by unfold R_one at q; unfold R_match; omega)⟩
  · rw [s 65 1 (by unfold R_match; omega)]; exact h2
  · rw [s 87 32 (by unfold R_match; omega)]; exact h3
theorem q_fresh.cg {m : Nat} {I I' : gI} {J J' : gJ} (h : q_fresh m I J) (s : ∀ a k, g_n m ≤ a → I' a k = I a k) (sJ : sj J J') : q_fresh m I' J' := by
  intro b hb k
  have hb' : 117 + 2 * m ≤ b := hb
  rw [s b k hb, sJ b (by omega) k]
  exact h b hb k
/-- only the clay is another -/
theorem Inv.clay {m : Nat} {I I' : gI} {J J' : gJ} (h : Inv m I J) {n : Nat} (hc : q_clay I' n) (s : ∀ a k, ¬ R_clay a k → ¬ scr m a k → I' a k = I a k) (sJ : sj J J') : Inv m I' J' := by
  obtain ⟨-, h2, h3, h4, h5, h6, h7⟩ := h
  refine ⟨⟨n, hc⟩, h2.cg fun a k q => ?_, h3.cg fun a k q => ?_, h4.cg fun a k q => ?_, h5.cg fun a k q => ?_, h6.cg fun a k q => ?_, h7.cg (fun a k q => ?_) sJ⟩
  · exact s a k (by unfold R_text at q; unfold R_clay; omega) (by unfold R_text at q; unfold scr; omega)
  · exact s a k (by unfold R_rules at q; unfold R_clay; omega) (by unfold R_rules at q; unfold scr; omega)
  · exact s a k (by unfold R_wts at q; unfold R_clay; omega) (by unfold R_wts at q; unfold scr; omega)
  · exact s a k (by unfold R_order at q; unfold R_clay; omega) (by unfold R_order at q; unfold scr; omega)
  · exact s a k (by unfold R_match at q; unfold R_clay; omega) (by unfold R_match at q; unfold scr; omega)
  · exact s a k (by unfold g_n at q; unfold R_clay; omega) (by unfold g_n at q; unfold scr; omega)
theorem Inv.text {m : Nat} {I I' : gI} {J J' : gJ} (h : Inv m I J) (hc : q_text I') (s : ∀ a k, ¬ R_text a k → ¬ scr m a k → I' a k = I a k) (sJ : sj J J') : Inv m I' J' := by
  obtain ⟨⟨n, h1⟩, -, h3, h4, h5, h6, h7⟩ := h
  refine ⟨⟨n, h1.cg fun a k q => ?_⟩, hc, h3.cg fun a k q => ?_, h4.cg fun a k q => ?_, h5.cg fun a k q => ?_, h6.cg fun a k q => ?_, h7.cg (fun a k q => ?_) sJ⟩
  · exact s a k (by unfold R_clay at q; unfold R_text; omega) (by unfold R_clay at q; unfold scr; omega)
  · exact s a k (by unfold R_rules at q; unfold R_text; omega) (by unfold R_rules at q; unfold scr; omega)
  · exact s a k (by unfold R_wts at q; unfold R_text; omega) (by unfold R_wts at q; unfold scr; omega)
  · exact s a k (by unfold R_order at q; unfold R_text; omega) (by unfold R_order at q; unfold scr; omega)
  · exact s a k (by unfold R_match at q; unfold R_text; omega) (by unfold R_match at q; unfold scr; omega)
  · exact s a k (by unfold g_n at q; unfold R_text; omega) (by unfold g_n at q; unfold scr; omega)
theorem Inv.rules {m : Nat} {I I' : gI} {J J' : gJ} (h : Inv m I J) (ht : q_text I') (hc : q_rules I') (s : ∀ a k, ¬ R_text a k → ¬ R_rules a → ¬ scr m a k → I' a k = I a k) (sJ : sj J J') : Inv m I' J' := by
  obtain ⟨⟨n, h1⟩, -, -, h4, h5, h6, h7⟩ := h
  refine ⟨⟨n, h1.cg fun a k q => ?_⟩, ht, hc, h4.cg fun a k q => ?_, h5.cg fun a k q => ?_, h6.cg fun a k q => ?_, h7.cg (fun a k q => ?_) sJ⟩
  · exact s a k (by unfold R_clay at q; unfold R_text; omega) (by unfold R_clay at q; unfold R_rules; omega) (by unfold R_clay at q; unfold scr; omega)
  · exact s a k (by unfold R_wts at q; unfold R_text; omega) (by unfold R_wts at q; unfold R_rules; omega) (by unfold R_wts at q; unfold scr; omega)
  · exact s a k (by unfold R_order at q; unfold R_text; omega) (by unfold R_order at q; unfold R_rules; omega) (by unfold R_order at q; unfold scr; omega)
  · exact s a k (by unfold R_match at q; unfold R_text; omega) (by unfold R_match at q; unfold R_rules; omega) (by unfold R_match at q; unfold scr; omega)
  · exact s a k (by unfold g_n at q; unfold R_text; omega) (by unfold g_n at q; unfold R_rules; omega) (by unfold g_n at q; unfold scr; omega)
theorem Inv.wts {m : Nat} {I I' : gI} {J J' : gJ} (h : Inv m I J) (hc : q_wts I') (s : ∀ a k, ¬ R_wts a → ¬ scr m a k → I' a k = I a k) (sJ : sj J J') : Inv m I' J' := by
  obtain ⟨⟨n, h1⟩, h2, h3, -, h5, h6, h7⟩ := h
  refine ⟨⟨n, h1.cg fun a k q => ?_⟩, h2.cg fun a k q => ?_, h3.cg fun a k q => ?_, hc, h5.cg fun a k q => ?_, h6.cg fun a k q => ?_, h7.cg (fun a k q => ?_) sJ⟩
  · exact s a k (by unfold R_clay at q; unfold R_wts; omega) (by unfold R_clay at q; unfold scr; omega)
  · exact s a k (by unfold R_text at q; unfold R_wts; omega) (by unfold R_text at q; unfold scr; omega)
  · exact s a k (by unfold R_rules at q; unfold R_wts; omega) (by unfold R_rules at q; unfold scr; omega)
  · exact s a k (by unfold R_order at q; unfold R_wts; omega) (by unfold R_order at q; unfold scr; omega)
  · exact s a k (by unfold R_match at q; unfold R_wts; omega) (by unfold R_match at q; unfold scr; omega)
  · exact s a k (by unfold g_n at q; unfold R_wts; omega) (by unfold g_n at q; unfold scr; omega)
theorem Inv.order {m : Nat} {I I' : gI} {J J' : gJ} (h : Inv m I J) (ht : q_text I') (hc : q_order I') (s : ∀ a k, ¬ R_text a k → ¬ R_order a k → ¬ scr m a k → I' a k = I a k) (sJ : sj J J') : Inv m I' J' := by
  obtain ⟨⟨n, h1⟩, -, h3, h4, -, h6, h7⟩ := h
  refine ⟨⟨n, h1.cg fun a k q => ?_⟩, ht, h3.cg fun a k q => ?_, h4.cg fun a k q => ?_, hc, h6.cg fun a k q => ?_, h7.cg (fun a k q => ?_) sJ⟩
  · exact s a k (by unfold R_clay at q; unfold R_text; omega) (by unfold R_clay at q; unfold R_order; omega) (by unfold R_clay at q; unfold scr; omega)
  · exact s a k (by unfold R_rules at q; unfold R_text; omega) (by unfold R_rules at q; unfold R_order; omega) (by unfold R_rules at q; unfold scr; omega)
  · exact s a k (by unfold R_wts at q; unfold R_text; omega) (by unfold R_wts at q; unfold R_order; omega) (by unfold R_wts at q; unfold scr; omega)
  · exact s a k (by unfold R_match at q; unfold R_text; omega) (by unfold R_match at q; unfold R_order; omega) (by unfold R_match at q; unfold scr; omega)
  · exact s a k (by unfold g_n at q; unfold R_text; omega) (by unfold g_n at q; unfold R_order; omega) (by unfold g_n at q; unfold scr; omega)
theorem Inv.match {m m' : Nat} {I I' : gI} {J J' : gJ} (h : Inv m I J) (hc : q_match m' I') (hf : q_fresh m' I' J') (s : ∀ a k, ¬ R_match a k → ¬ scr m a k → I' a k = I a k) : Inv m' I' J' := by
  obtain ⟨⟨n, h1⟩, h2, h3, h4, h5, -, -⟩ := h
  refine ⟨⟨n, h1.cg fun a k q => ?_⟩, h2.cg fun a k q => ?_, h3.cg fun a k q => ?_, h4.cg fun a k q => ?_, h5.cg fun a k q => ?_, hc, hf⟩
  · exact s a k (by unfold R_clay at q; unfold R_match; omega) (by unfold R_clay at q; unfold scr; omega)
  · exact s a k (by unfold R_text at q; unfold R_match; omega) (by unfold R_text at q; unfold scr; omega)
  · exact s a k (by unfold R_rules at q; unfold R_match; omega) (by unfold R_rules at q; unfold scr; omega)
  · exact s a k (by unfold R_wts at q; unfold R_match; omega) (by unfold R_wts at q; unfold scr; omega)
  · exact s a k (by unfold R_order at q; unfold R_match; omega) (by unfold R_order at q; unfold scr; omega)
