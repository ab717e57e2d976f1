/-! rule -/
def up8 (val : Nat → Int32) (c : Nat) (x : Int32) (k : Nat) : Int32 := if k = c then x else val k
/-- the whole text: what is wrong (0: nothing), where, how many clauses, their values -/
def go8 (tx : Nat → Nat) (t : Nat) : Nat → Nat → Int32 → (Nat → Int32) → Nat → Int32 × Nat × Nat × (Nat → Int32)
  | 0, _, _, val, many => (0, 0, many, val)
  | d + 1, a, told, val, many =>
    if t ≤ a then (0, 0, many, val)
    else if (rc tx t a told).1 = 0 then go8 tx t d (stp (is_bl tx) t (rc tx t a told).2.1) (told ||| 1 <<< nI (rc tx t a told).2.2.1) (up8 val (rc tx t a told).2.2.1 (rc tx t a told).2.2.2) (many + 1)
    else ((rc tx t a told).1, (rc tx t a told).2.1, many, val)
/-- no bit from the n-th on -/
def lowN (n : Nat) (x : Int32) : Prop := ∀ i, n ≤ i → tb x i = false
theorem lowN.low {n : Nat} {x : Int32} (h : lowN n x) (hn : n ≤ 12) : low x := fun i hi => h i (by omega)
theorem bcN {n : Nat} {x : Int32} (h : lowN n x) (hn : n ≤ 12) {c : Nat} (hc : c < 100) (e : f_J6_bitCount_0f7a4 x = nI c) : c ≤ n := by
  rw [bc_s (h.low hn)] at e
  have h1 : ∀ k, n ≤ k → s_sum (bin x) k = s_sum (bin x) n := by
    intro k
    induction k with
    | zero =>
      intro q
      rw [show n = 0 by omega]
    | succ k ih =>
      intro q
      by_cases z : n = k + 1
      · rw [z]
      · rw [s_sum_s, ih (by omega)]
        unfold bin
        rw [h k (by omega)]
        exact Int32.add_zero _
  rw [h1 12 hn] at e
  obtain ⟨b1, b2⟩ := s01_b (f := bin x) (fun k => by
    unfold bin
    split
    · exact Or.inr rfl
    · exact Or.inl rfl) n (by omega)
  rw [e, nI_toInt (by omega)] at b2
  omega
theorem lowN_or {n : Nat} {x : Int32} {i : Nat} (h : lowN n x) (hi : i < n) (hn : n ≤ 12) : lowN n (x ||| 1 <<< nI i) := fun j hj => by
  rw [tb_or, h j hj, tb_one' (by omega), decide_eq_false (by omega)]
  rfl
section RUL
variable {tx : Nat → Nat} {t : Nat}
theorem rd_end {I : gI} {x : Int32} (fu : Nat) (h : ¬ I 39 3 = 0) : f_X6_read_29 (fu + 1) x I = f_X6_read_68 I := by
  rw [f_X6_read_29]
  unfold f_X8_isSound
  rw [if_neg h]
  split
  · rfl
  · split
    · rfl
    · rw [if_pos rfl]
def RC (I0 I : gI) : Prop := ∀ a k, ¬ (a = 39 ∧ 2 ≤ k ∧ k ≤ 4) → a ≠ 55 → ¬ (a = 54 ∧ k = 1) → I a k = I0 a k
theorem run_c {I0 : gI} (h0 : TC tx t I0) : ∀ (d many a fu : Nat) (told : Int32) (val : Nat → Int32) (I : gI), many + d = 9 → d + 1 < fu → RC I0 I → I 39 2 = nI a → a ≤ t → stp (is_bl tx) t a = a → I 39 3 = 0 → I 39 4 = -1 → I 54 1 = told → (∀ k, k < 8 → I 55 k = val k) → lowN 8 told → f_J6_bitCount_0f7a4 told = nI many → ∃ I2, f_X6_read_29 fu (nI many) I = some (f_J6_bitCount_0f7a4 (I2 54 1), I2) ∧ RC I0 I2 ∧ ((go8 tx t d a told val many).1 = 0 → I2 39 3 = 0 ∧ I2 39 4 = -1 ∧ f_J6_bitCount_0f7a4 (I2 54 1) = nI (go8 tx t d a told val many).2.2.1 ∧ ∀ k, k < 8 → I2 55 k = (go8 tx t d a told val many).2.2.2 k) ∧ (¬ (go8 tx t d a told val many).1 = 0 → I2 39 3 = (go8 tx t d a told val many).1 ∧ I2 39 4 = nI (go8 tx t d a told val many).2.1) := by
  have ht := h0.2.1
  intro d
  induction d with
  | zero =>
    intro many a fu told val I h1 h2 h3 h4 h5 h6 h7 h8 h9 h10 h11 h12
    have := bcN h11 (by omega) (by omega) h12
    omega
  | succ d ih =>
    intro many a fu told val I h1 h2 h3 h4 h5 h6 h7 h8 h9 h10 h11 h12
    obtain ⟨fu, rfl⟩ : ∃ f, fu = f + 1 := ⟨fu - 1, by omega⟩
    have hT : TC tx t I := h0.fr fun x k q => h3 x k (by omega) (by omega) (by omega)
    rw [f_X6_read_29, if_neg (show ¬ (8 : Int32) < nI many from nI_nlt (a := 8) (by omega) (by omega)), hT.1, h4]
    unfold go8
    by_cases e : t ≤ a
    · rw [if_pos (nI_le e (by omega)), if_pos e]
      refine ⟨I, rfl, h3, fun _ => ⟨h7, h8, by rw [h9]; exact h12, h10⟩, fun q => absurd rfl q⟩
    · rw [if_neg (nI_ge (by omega) (by omega)), if_neg e, if_neg (by unfold f_X8_isSound; rw [if_pos h7]; decide)]
      obtain ⟨I1, c1, c2, ⟨z, zt, c3⟩, c4, c5⟩ := cls_c hT h4 h5 h7
      rw [h9] at c4 c5
      have r1 : RC I0 I1 := fun x k q1 q2 q3 => by rw [c2 x k q1 q2 q3]; exact h3 x k q1 q2 q3
      rw [c1, Option.bind_some, nI_1]
      have hT1 : TC tx t I1 := h0.fr fun x k q => r1 x k (by omega) (by omega) (by omega)
      by_cases e2 : (rc tx t a told).1 = 0
      · obtain ⟨k1, k2, k3, k4, k5, k6, k7, k8⟩ := c4 e2
        obtain ⟨I2, s1, s2, s3⟩ := skip_c hT1 k4 k2
        obtain ⟨p1, p2, -⟩ := stp_b' (P := is_bl tx) k2
        rw [if_pos e2, s1, Option.bind_some]
        refine ih (many + 1) _ fu _ _ I2 (by omega) (by omega) (fun x k q1 q2 q3 => by rw [s2 x k (by omega)]; exact r1 x k q1 q2 q3) s3 p2 (stp_id k2) (by rw [s2 _ _ (by omega)]; exact k5) (by rw [s2 _ _ (by omega), k6]; exact h8) (by rw [s2 _ _ (by omega)]; exact k7) (fun k hk => ?_) (lowN_or h11 k1 (by omega)) ?_
        · rw [s2 _ _ (by omega), k8 k]
          unfold up8
          by_cases z : k = (rc tx t a told).2.2.1
          · rw [if_pos z, if_pos z]
          · rw [if_neg z, if_neg z]
            exact h10 k hk
        · rw [bc_up (h11.low (by omega)) (by omega) k3, h12, nI_1]
      · obtain ⟨k1, k2⟩ := c5 e2
        obtain ⟨I2, s1, s2, s3⟩ := skip_c hT1 c3 zt
        obtain ⟨fu, rfl⟩ : ∃ f, fu = f + 1 := ⟨fu - 1, by omega⟩
        have k3 : I2 39 3 = (rc tx t a told).1 := by rw [s2 _ _ (by omega)]; exact k1
        rw [if_neg e2, s1, Option.bind_some, rd_end fu (by rw [k3]; exact e2)]
        refine ⟨I2, rfl, fun x k q1 q2 q3 => by rw [s2 x k (by omega)]; exact r1 x k q1 q2 q3, fun q => absurd q e2, fun _ => ⟨k3, by rw [s2 _ _ (by omega)]; exact k2⟩⟩
def RM (I0 I : gI) : Prop := ∀ a k, ¬ (a = 87 ∧ ((14 ≤ k ∧ k ≤ 18) ∨ k = 21)) → a ≠ 101 → I a k = I0 a k
theorem run_m {I0 : gI} (x1 : Int32) (h0 : TM tx t I0) : ∀ (d many a fu : Nat) (told : Int32) (val : Nat → Int32) (I : gI), many + d = 9 → d + 1 < fu → RM I0 I → I 87 14 = nI a → a ≤ t → I 87 15 = 0 → I 87 16 = -1 → I 87 21 = told → (∀ k, k < 8 → I 101 k = val k) → lowN 8 told → f_J6_bitCount_0f7a4 told = nI many → ∃ I2 x2, f_X10_rule_57 fu x1 (nI many) I = f_X10_rule_85 x1 x2 I2 ∧ RM I0 I2 ∧ ((go8 tx t d (stp (is_bl tx) t a) told val many).1 = 0 → I2 87 15 = 0 ∧ I2 87 16 = -1 ∧ x2 = nI (go8 tx t d (stp (is_bl tx) t a) told val many).2.2.1 ∧ ∀ k, k < 8 → I2 101 k = (go8 tx t d (stp (is_bl tx) t a) told val many).2.2.2 k) ∧ (¬ (go8 tx t d (stp (is_bl tx) t a) told val many).1 = 0 → I2 87 15 = (go8 tx t d (stp (is_bl tx) t a) told val many).1 ∧ I2 87 16 = nI (go8 tx t d (stp (is_bl tx) t a) told val many).2.1) := by
  have ht := h0.2.1
  intro d
  induction d with
  | zero =>
    intro many a fu told val I h1 h2 h3 h4 h5 h7 h8 h9 h10 h11 h12
    have := bcN h11 (by omega) (by omega) h12
    omega
  | succ d ih =>
    intro many a fu told val I h1 h2 h3 h4 h5 h7 h8 h9 h10 h11 h12
    obtain ⟨fu, rfl⟩ : ∃ f, fu = f + 1 := ⟨fu - 1, by omega⟩
    have hT : TM tx t I := h0.fr fun x k q => h3 x k (by omega) (by omega)
    obtain ⟨I1, e1, e2, e3⟩ := here_m hT h4 h5
    obtain ⟨p1, p2, -⟩ := stp_b' (P := is_bl tx) h5
    rw [f_X10_rule_57, if_pos h7, hT.1, e1, Option.bind_some]
    have hid := stp_id (P := is_bl tx) h5
    generalize stp (is_bl tx) t a = q at *
    have r1 : RM I0 I1 := fun x k q1 q2 => by rw [e2 x k (by omega)]; exact h3 x k q1 q2
    have hT1 : TM tx t I1 := h0.fr fun x k z => r1 x k (by omega) (by omega)
    unfold go8
    by_cases e : t ≤ q
    · rw [if_pos (show (if q < t then nI (tx q) else -1) < 0 by rw [if_neg (by omega)]; decide), if_pos e]
      refine ⟨I1, nI many, rfl, r1, fun _ => ⟨by rw [e2 _ _ (by omega)]; exact h7, by rw [e2 _ _ (by omega)]; exact h8, rfl, fun k hk => by rw [e2 _ _ (by omega)]; exact h10 k hk⟩, fun z => absurd rfl z⟩
    · rw [if_neg (show ¬ (if q < t then nI (tx q) else -1) < 0 by rw [if_pos (by omega)]; exact nI_pos (by have := (h0.2.2 q (by omega)).2; omega)), if_neg e]
      obtain ⟨I2, c1, c2, c4, c5⟩ := cls_m hT1 e3 p2 (by rw [e2 _ _ (by omega)]; exact h7)
      rw [hid, e2 87 21 (by omega), h9] at c4 c5
      try dsimp only
      rw [c1, Option.bind_some, nI_1]
      have r2 : RM I0 I2 := fun x k q1 q2 => by rw [c2 x k q1 q2]; exact r1 x k q1 q2
      by_cases e5 : (rc tx t q told).1 = 0
      · obtain ⟨k1, k2, k3, k4, k5, k6, k7, k8⟩ := c4 e5
        rw [if_pos e5]
        refine ih (many + 1) _ fu _ _ I2 (by omega) (by omega) r2 k4 k2 k5 (by rw [k6, e2 _ _ (by omega)]; exact h8) k7 (fun k hk => ?_) (lowN_or h11 k1 (by omega)) ?_
        · rw [k8 k]
          unfold up8
          by_cases z : k = (rc tx t q told).2.2.1
          · rw [if_pos z, if_pos z]
          · rw [if_neg z, if_neg z, e2 _ _ (by omega)]
            exact h10 k hk
        · rw [bc_up (h11.low (by omega)) (by omega) k3, h12, nI_1]
      · obtain ⟨k1, k2⟩ := c5 e5
        obtain ⟨fu, rfl⟩ : ∃ f, fu = f + 1 := ⟨fu - 1, by omega⟩
        rw [if_neg e5, f_X10_rule_57, if_neg (show ¬ I2 87 15 = 0 by rw [k1]; exact e5)]
        exact ⟨I2, nI (many + 1), rfl, r2, fun z => absurd z e5, fun _ => ⟨k1, k2⟩⟩
/-! within their bounds -/
theorem rv_v {p c : Nat} (hc : c < 8) (h : (rv tx t p c).1 = 0) : q_b (rv tx t p c).2.2 0 (q_hi c) := by
  unfold rv at h ⊢
  by_cases c5 : c < 5
  · rw [if_pos c5] at h ⊢
    by_cases e : stp (is_fi tx) t p = p
    · rw [if_pos e] at h
      exact absurd (show (1 : Int32) = 0 from h) (by decide)
    · rw [if_neg e] at h ⊢
      by_cases e2 : okN tx c p (stp (is_fi tx) t p) = true
      · rw [if_pos e2]
        show q_b (nI (Nn (fun k => tx (p + k)) (stp (is_fi tx) t p - p))) 0 (q_hi c)
        unfold okN at e2
        rw [Bool.and_eq_true, w_in] at e2
        have e3 := of_decide_eq_true e2.2
        have hb : ∀ c, c < 5 → 0 ≤ (g_sf 1 c).toInt ∧ (g_sf 2 c).toInt = q_hi c := by decide +kernel
        have := hb c c5
        exact ⟨by omega, by omega⟩
      · rw [if_neg e2] at h
        exact absurd (show (2 : Int32) = 0 from h) (by decide)
  · rw [if_neg c5] at h ⊢
    by_cases e : chW tx c p (stp (is_le tx) t p) = -1
    · rw [if_pos e] at h
      exact absurd (show (1 : Int32) = 0 from h) (by decide)
    · rw [if_neg e]
      show q_b (chW tx c p (stp (is_le tx) t p)) 0 (q_hi c)
      unfold chW at e ⊢
      by_cases z : c = 5
      · rw [if_pos z] at e ⊢
        rw [z]
        unfold ca_w at e ⊢
        split
        · decide
        · split
          · decide
          · split
            · decide
            · rename_i a1 a2 a3
              rw [if_neg a1, if_neg a2, if_neg a3] at e
              exact absurd rfl e
      · rw [if_neg z] at e ⊢
        have hh : q_hi c = 1 := by
          unfold q_hi
          rw [if_neg (by omega), if_neg (by omega), if_neg (by omega), if_neg (by omega), if_neg z]
        rw [hh]
        unfold ye_w at e ⊢
        split
        · decide
        · split
          · decide
          · rename_i a1 a2
            rw [if_neg a1, if_neg a2] at e
            exact absurd rfl e
theorem rc_v {a : Nat} {told : Int32} (h : (rc tx t a told).1 = 0) : (rc tx t a told).2.2.1 < 8 ∧ q_b (rc tx t a told).2.2.2 0 (q_hi (rc tx t a told).2.2.1) := by
  rcases cw_v tx a (stp (is_le tx) t a) with e | ⟨c, hc, e⟩
  · rw [rc_1 e] at h
    exact absurd (show (1 : Int32) = 0 from h) (by decide)
  · rw [rc_2 hc e] at h ⊢
    by_cases e2 : tb told c = true
    · rw [if_pos e2] at h
      exact absurd (show (3 : Int32) = 0 from h) (by decide)
    · rw [if_neg e2] at h ⊢
      by_cases e3 : (rv tx t (stp (is_bl tx) t (stp (is_le tx) t a)) c).1 = 0
      · rw [if_pos e3] at h ⊢
        split
        · exact ⟨hc, rv_v hc e3⟩
        · rename_i e4
          rw [if_neg e4] at h
          exact absurd (show (1 : Int32) = 0 from h) (by decide)
      · rw [if_neg e3] at h
        exact absurd h e3
theorem go_v : ∀ (d a : Nat) (told : Int32) (val : Nat → Int32) (many : Nat), (∀ k, k < 8 → q_b (val k) 0 (q_hi k)) → ∀ k, k < 8 → q_b ((go8 tx t d a told val many).2.2.2 k) 0 (q_hi k) := by
  intro d
  induction d with
  | zero => intro a told val many h; exact h
  | succ d ih =>
    intro a told val many h
    unfold go8
    split
    · exact h
    · split
      · rename_i e
        refine ih _ _ _ _ fun k hk => ?_
        unfold up8
        by_cases z : k = (rc tx t a told).2.2.1
        · rw [if_pos z, z]
          exact (rc_v e).2
        · rw [if_neg z]
          exact h k hk
      · exact h
theorem go_n : ∀ (d a : Nat) (told : Int32) (val : Nat → Int32) (many : Nat), (go8 tx t d a told val many).1 = 0 ∨ (go8 tx t d a told val many).1 = 1 ∨ (go8 tx t d a told val many).1 = 2 ∨ (go8 tx t d a told val many).1 = 3 := by
  have hv : ∀ p c, (rv tx t p c).1 = 0 ∨ (rv tx t p c).1 = 1 ∨ (rv tx t p c).1 = 2 := by
    intro p c
    unfold rv
    split
    · split
      · simp
      · split <;> simp
    · split <;> simp
  have hr : ∀ a told, (rc tx t a told).1 = 0 ∨ (rc tx t a told).1 = 1 ∨ (rc tx t a told).1 = 2 ∨ (rc tx t a told).1 = 3 := by
    intro a told
    unfold rc
    split
    · simp
    · split
      · simp
      · split
        · split <;> simp
        · rename_i e
          rcases hv (stp (is_bl tx) t (stp (is_le tx) t a)) (c_w tx a (stp (is_le tx) t a)).toNatClampNeg with z | z | z
          · exact absurd z e
          · right
            left
            exact z
          · right
            right
            left
            exact z
  intro d
  induction d with
  | zero => intro a told val many; left; rfl
  | succ d ih =>
    intro a told val many
    unfold go8
    split
    · simp
    · split
      · exact ih _ _ _ _
      · exact hr a told
end RUL
theorem first8 : ∀ k, k < 8 → f_X10_first (nI k) = g_sf 0 k ∧ q_b (g_sf 0 k) 0 (q_hi k) := by decide +kernel
theorem ini_8 (x1 : Int32) (I : gI) : ∃ I', f_X10_rule_33 g_fuel x1 0 I = f_X10_rule_57 g_fuel x1 0 I' ∧ (∀ a k, a ≠ 101 → I' a k = I a k) ∧ ∀ k, k < 8 → I' 101 k = g_sf 0 k := by
  refine lpg (P := fun fu k => ∀ I1, (∀ a k, a ≠ 101 → I1 a k = I a k) → (∀ j, j < k → I1 101 j = g_sf 0 j) → ∃ I', f_X10_rule_33 fu x1 (nI k) I1 = f_X10_rule_57 g_fuel x1 0 I' ∧ (∀ a k, a ≠ 101 → I' a k = I a k) ∧ ∀ k, k < 8 → I' 101 k = g_sf 0 k) (n := 8) (by omega) (fun fu I1 a1 a2 => ?_) (fun fu k hk ih I1 a1 a2 => ?_) 0 (by omega) I (fun _ _ _ => rfl) (fun j hj => absurd hj (by omega))
  · refine ⟨I1, ?_, a1, a2⟩
    rw [f_X10_rule_33, if_pos (show (8 : Int32) ≤ nI 8 by decide)]
  · rw [f_X10_rule_33, if_neg (show ¬ (8 : Int32) ≤ nI k from nI_ge (b := 8) hk (by omega)), gin_nI hk (by omega), if_pos rfl, nI_clamp (by omega), nI_1, (first8 k hk).1]
    refine ih _ (fun a j q => by rw [u_na q]; exact a1 a j q) (fun j hj => ?_)
    by_cases e : j = k
    · rw [e, u_eq rfl rfl]
    · rw [u_nk e]
      exact a2 j (by omega)
theorem fin_8 {v : Nat} (hv : v < 6) (x2 : Int32) (I : gI) : ∃ I', f_X10_rule_107 g_fuel (nI v) x2 0 I = some (x2, I') ∧ (∀ a k, ¬ (a = 100 ∧ 8 * v ≤ k ∧ k < 8 * v + 8) → I' a k = I a k) ∧ ∀ k, k < 8 → I' 100 (8 * v + k) = I 101 k := by
  refine lpg (P := fun fu k => ∀ I1, (∀ a k, ¬ (a = 100 ∧ 8 * v ≤ k ∧ k < 8 * v + 8) → I1 a k = I a k) → (∀ j, j < k → I1 100 (8 * v + j) = I 101 j) → ∃ I', f_X10_rule_107 fu (nI v) x2 (nI k) I1 = some (x2, I') ∧ (∀ a k, ¬ (a = 100 ∧ 8 * v ≤ k ∧ k < 8 * v + 8) → I' a k = I a k) ∧ ∀ k, k < 8 → I' 100 (8 * v + k) = I 101 k) (n := 8) (by omega) (fun fu I1 a1 a2 => ?_) (fun fu k hk ih I1 a1 a2 => ?_) 0 (by omega) I (fun _ _ _ => rfl) (fun j hj => absurd hj (by omega))
  · refine ⟨I1, ?_, a1, a2⟩
    rw [f_X10_rule_107, if_pos (show (8 : Int32) ≤ nI 8 by decide)]
  · obtain ⟨i1, i2⟩ := ix8 v hv k hk
    rw [f_X10_rule_107, if_neg (show ¬ (8 : Int32) ≤ nI k from nI_ge (b := 8) hk (by omega)), gin_nI hk (by omega), if_pos rfl, i1, if_pos rfl, i2, nI_clamp (by omega), nI_1]
    refine ih _ (fun a j q => by rw [u_ap, if_neg (by omega)]; exact a1 a j q) (fun j hj => ?_)
    by_cases e : j = k
    · rw [e, u_eq rfl rfl]
      exact a1 101 k (by omega)
    · rw [u_nk (by omega)]
      exact a2 j (by omega)
theorem q_text.tc {I : gI} (h : q_text I) : ∃ tx t, TC tx t I ∧ TM tx t I ∧ I 39 4 = I 87 16 := by
  obtain ⟨t, h1, h2, h3, h4, h5⟩ := h
  have hb : ∀ k, k < t → I 99 k = nI (I 99 k).toNatClampNeg ∧ (I 99 k).toNatClampNeg ≤ 255 := by
    intro k hk
    obtain ⟨j, -, j2, ej⟩ := nI_b (a := 0) (b := 255) (h5 k hk).2 (by omega)
    rw [ej, nI_clamp (by omega)]
    exact ⟨rfl, j2⟩
  exact ⟨fun k => (I 99 k).toNatClampNeg, t, ⟨h2, h1, fun k hk => ⟨by rw [(h5 k hk).1]; exact (hb k hk).1, (hb k hk).2⟩⟩, ⟨h3, h1, hb⟩, h4⟩
theorem o_rule : op_rule Inv := by
  intro m I J v h
  obtain ⟨-, hq, hr, -⟩ := id h
  by_cases c1 : 0 ≤ v.toInt ∧ v.toInt ≤ 5
  rotate_left
  · refine ⟨(-1001, I), (-1001, I), ?_, ?_, rfl, h⟩
    · unfold f_X9_rule
      rw [vil_c, decide_eq_false c1]
      rfl
    · show f_X10_rule v I = _
      unfold f_X10_rule
      rw [vil_m, decide_eq_false c1]
      rfl
  have vm : f_X10_isVillage v = true := by rw [vil_m]; exact decide_eq_true c1
  have vc : f_X9_isVillage v = true := by rw [vil_c]; exact decide_eq_true c1
  obtain ⟨v, hv, rfl⟩ := nI_lt_of (x := v) (n := 6) c1.1 (by omega)
  obtain ⟨tx, t, hC, hM, h416⟩ := hq.tc
  have ht := hC.2.1
  /- the class's reading -/
  obtain ⟨I0, eI0⟩ : ∃ I0, I0 = f_X8_startReading (g_u (g_cs I 0 (54 + 1) 8) 54 1 0) := ⟨_, rfl⟩
  have cs_na : ∀ b j, b ≠ 55 → g_cs I 0 (54 + 1) 8 b j = I b j := fun b j q => by
    unfold g_cs
    rw [if_neg (show ¬ b = 54 + 1 from q)]
  have cs_at : ∀ j, j < 8 → g_cs I 0 (54 + 1) 8 55 j = g_sf 0 j := fun j q => by
    unfold g_cs
    rw [if_pos rfl, if_pos q]
  have f0 : RC I I0 := fun a k q1 q2 q3 => by
    rw [eI0]
    unfold f_X8_startReading
    rw [u_ap, if_neg (by omega), u_ap, if_neg (by omega), u_ap, if_neg (by omega), u_ap, if_neg q3]
    exact cs_na a k q2
  have b2 : I0 39 2 = nI 0 := by
    rw [eI0]
    unfold f_X8_startReading
    rw [u_nk (by omega), u_nk (by omega), u_eq rfl rfl]
    rfl
  have b3 : I0 39 3 = 0 := by
    rw [eI0]
    unfold f_X8_startReading
    rw [u_nk (by omega), u_eq rfl rfl]
  have b4 : I0 39 4 = -1 := by
    rw [eI0]
    unfold f_X8_startReading
    rw [u_eq rfl rfl]
  have b54 : I0 54 1 = 0 := by
    rw [eI0]
    unfold f_X8_startReading
    rw [u_na (by omega), u_na (by omega), u_na (by omega), u_eq rfl rfl]
  have b55 : ∀ k, k < 8 → I0 55 k = g_sf 0 k := fun k hk => by
    rw [eI0]
    unfold f_X8_startReading
    rw [u_na (by omega), u_na (by omega), u_na (by omega), u_na (by omega)]
    exact cs_at k hk
  have hC0 : TC tx t I0 := hC.fr fun a k q => f0 a k (by omega) (by omega) (by omega)
  obtain ⟨I1, s1, s2, s3⟩ := skip_c hC0 b2 (Nat.zero_le t)
  obtain ⟨p1, p2, -⟩ := stp_b' (P := is_bl tx) (Nat.zero_le t)
  obtain ⟨R, eR⟩ : ∃ R, R = go8 tx t 9 (stp (is_bl tx) t 0) 0 (fun k => g_sf 0 k) 0 := ⟨_, rfl⟩
  have lz : lowN 8 0 := fun i _ => tb_0 i
  obtain ⟨I2, d1, d2, d3, d4⟩ := run_c hC 9 0 (stp (is_bl tx) t 0) g_fuel 0 (fun k => g_sf 0 k) I1 (by omega) (by unfold g_fuel; omega) (fun a k q1 q2 q3 => by rw [s2 a k (by omega)]; exact f0 a k q1 q2 q3) s3 p2 (stp_id (Nat.zero_le t)) (by rw [s2 _ _ (by omega)]; exact b3) (by rw [s2 _ _ (by omega)]; exact b4) (by rw [s2 _ _ (by omega)]; exact b54) (fun k hk => by rw [s2 _ _ (by omega)]; exact b55 k hk) lz bc_0
  rw [← eR] at d3 d4
  have hread : f_X6_read I = some (f_J6_bitCount_0f7a4 (I2 54 1), I2) := by
    unfold f_X6_read
    rw [← eI0, s1, Option.bind_some]
    exact d1
  /- the model's, over any state with the same text -/
  have hmod : ∀ I' : gI, TM tx t I' → ∃ I3 x3, f_X10_rule (nI v) I' = f_X10_rule_85 (nI v) x3 I3 ∧ RM I' I3 ∧ (R.1 = 0 → I3 87 15 = 0 ∧ I3 87 16 = -1 ∧ x3 = nI R.2.2.1 ∧ ∀ k, k < 8 → I3 101 k = R.2.2.2 k) ∧ (¬ R.1 = 0 → I3 87 15 = R.1 ∧ I3 87 16 = nI R.2.1) := by
    intro I' hM'
    obtain ⟨K0, eK0⟩ : ∃ K0, K0 = g_u (g_u (g_u (g_u I' 87 14 0) 87 15 0) 87 16 (-1)) 87 21 0 := ⟨_, rfl⟩
    have k0 : ∀ a k, ¬ (a = 87 ∧ ((14 ≤ k ∧ k ≤ 18) ∨ k = 21)) → K0 a k = I' a k := fun a k q => by rw [eK0, u_ap, if_neg (by omega), u_ap, if_neg (by omega), u_ap, if_neg (by omega), u_ap, if_neg (by omega)]
    obtain ⟨K1, e1, e2, e3⟩ := ini_8 (nI v) K0
    obtain ⟨I3, x3, g1, g2, g3, g4⟩ := run_m (tx := tx) (t := t) (nI v) hM' 9 0 0 g_fuel 0 (fun k => g_sf 0 k) K1 (by omega) (by unfold g_fuel; omega) (fun a k q1 q2 => by rw [e2 a k q2]; exact k0 a k q1) (by rw [e2 _ _ (by omega), eK0, u_nk (by omega), u_nk (by omega), u_nk (by omega), u_eq rfl rfl]; rfl) (Nat.zero_le t) (by rw [e2 _ _ (by omega), eK0, u_nk (by omega), u_nk (by omega), u_eq rfl rfl]) (by rw [e2 _ _ (by omega), eK0, u_nk (by omega), u_eq rfl rfl]) (by rw [e2 _ _ (by omega), eK0, u_eq rfl rfl]) e3 lz bc_0
    rw [← eR] at g3 g4
    refine ⟨I3, x3, ?_, g2, g3, g4⟩
    unfold f_X10_rule
    rw [vm, if_pos rfl, ← eK0, e1]
    exact g1
  obtain ⟨I4, eI4⟩ : ∃ I4, I4 = g_u I2 39 1 0 := ⟨_, rfl⟩
  have f4 : ∀ a k, ¬ (a = 39 ∧ 1 ≤ k ∧ k ≤ 4) → a ≠ 55 → ¬ (a = 54 ∧ k = 1) → I4 a k = I a k := fun a k q1 q2 q3 => by rw [eI4, u_ap, if_neg (by omega)]; exact d2 a k (by omega) q2 q3
  have hrule : f_X9_rule (nI v) I = if I2 39 3 = 0 then some (f_J6_bitCount_0f7a4 (I2 54 1), g_cp I4 55 (43 + 2 * v) 8) else some (-10 - I2 39 3, I4) := by
    unfold f_X9_rule
    rw [vc, if_pos rfl, hread, Option.bind_some]
    try dsimp only
    unfold f_X8_clear f_X6_become f_X8_isSound
    rw [← eI4, show I4 39 3 = I2 39 3 by rw [eI4, u_nk (by omega)], gin_nI hv (by omega), nI_clamp (by omega), show 42 + 2 * v + 1 = 43 + 2 * v by omega]
    by_cases e : I2 39 3 = 0
    · rw [if_pos e, if_pos e, if_pos rfl, if_pos rfl]
    · rw [if_neg e, if_neg e, if_neg (by decide)]
  by_cases e : R.1 = 0
  · obtain ⟨k1, k2, k3, k4⟩ := d3 e
    obtain ⟨I5, eI5⟩ : ∃ I5, I5 = g_cp I4 55 (43 + 2 * v) 8 := ⟨_, rfl⟩
    have f5 : ∀ a k, a ≠ 43 + 2 * v → I5 a k = I4 a k := fun a k q => by rw [eI5, cp_na q]
    have v5 : ∀ k, k < 8 → I5 (43 + 2 * v) k = R.2.2.2 k := fun k hk => by rw [eI5, cp_at hk, eI4, u_na (by omega)]; exact k4 k hk
    obtain ⟨I6, x6, g1, g2, g3, g4⟩ := hmod I5 (hM.fr fun a k q => by rw [f5 a k (by omega), f4 a k (by omega) (by omega) (by omega)])
    obtain ⟨w1, w2, w3, w4⟩ := g3 e
    obtain ⟨I7, y1, y2, y3⟩ := fin_8 hv x6 (g_u I6 87 13 0)
    have hm : f_X10_rule (nI v) I5 = some (x6, I7) := by
      rw [g1]
      unfold f_X10_rule_85
      rw [u_nk (by omega), w1, if_pos (by decide)]
      exact y1
    have f7 : ∀ a k, ¬ (a = 39 ∧ 1 ≤ k ∧ k ≤ 4) → a ≠ 55 → ¬ (a = 54 ∧ k = 1) → a ≠ 43 + 2 * v → ¬ (a = 87 ∧ ((13 ≤ k ∧ k ≤ 18) ∨ k = 21)) → a ≠ 101 → ¬ (a = 100 ∧ 8 * v ≤ k ∧ k < 8 * v + 8) → I7 a k = I a k := fun a k q1 q2 q3 q4 q5 q6 q7 => by
      rw [y2 a k q7, u_ap, if_neg (by omega), g2 a k (by omega) q6, f5 a k q4, f4 a k q1 q2 q3]
    refine ⟨(f_J6_bitCount_0f7a4 (I2 54 1), I5), (x6, I7), ?_, hm, by show _ = x6; rw [k3, w3], ?_⟩
    · rw [hrule, if_pos k1, eI5]
    · show Inv m I7 J
      refine h.rules ⟨0, by omega, ?_, ?_, ?_, fun k hk => absurd hk (by omega)⟩ (fun u hu k hk => ?_) (fun a k q1 q2 q3 => ?_) sj.rfl
      · rw [y2 _ _ (by omega), u_na (by omega), g2 _ _ (by omega) (by omega), f5 _ _ (by omega), eI4, u_eq rfl rfl]
        rfl
      · rw [y2 _ _ (by omega), u_eq rfl rfl]
        rfl
      · rw [y2 _ _ (by omega), u_na (by omega), g2 _ _ (by omega) (by omega), f5 _ _ (by omega), eI4, u_nk (by omega), k2, y2 _ _ (by omega), u_nk (by omega), w2]
      · by_cases eu : u = v
        · rw [eu, y2 _ _ (by omega), u_na (by omega), g2 _ _ (by omega) (by omega), v5 k hk, y3 k hk, u_na (by omega), w4 k hk]
          refine ⟨rfl, ?_⟩
          rw [eR]
          exact go_v 9 _ _ _ _ (fun k hk => (first8 k hk).2) k hk
        · have z1 : I7 (43 + 2 * u) k = I (43 + 2 * u) k := f7 _ _ (by omega) (by omega) (by omega) (by omega) (by omega) (by omega) (by omega)
          have z2 : I7 100 (8 * u + k) = I 100 (8 * u + k) := f7 _ _ (by omega) (by omega) (by omega) (by omega) (by omega) (by omega) (by omega)
          rw [z1, z2]
          exact hr u hu k hk
      · unfold R_text at q1
        unfold R_rules at q2
        unfold scr at q3
        exact f7 a k (by omega) (by omega) (by omega) (by omega) (by omega) (by omega) (by omega)
  · obtain ⟨k1, k2⟩ := d4 e
    obtain ⟨I6, x6, g1, g2, g3, g4⟩ := hmod I4 (hM.fr fun a k q => f4 a k (by omega) (by omega) (by omega))
    obtain ⟨w1, w2⟩ := g4 e
    have hpos : ¬ R.1 ≤ 0 := by
      rcases go_n (tx := tx) (t := t) 9 (stp (is_bl tx) t 0) 0 (fun k => g_sf 0 k) 0 with z | z | z | z
      · rw [eR] at e
        exact absurd z e
      · rw [eR, z]
        decide
      · rw [eR, z]
        decide
      · rw [eR, z]
        decide
    have hm : f_X10_rule (nI v) I4 = some (-10 - R.1, g_u I6 87 13 0) := by
      rw [g1]
      unfold f_X10_rule_85
      rw [u_nk (by omega), w1, if_neg hpos]
    refine ⟨(-10 - I2 39 3, I4), (-10 - R.1, g_u I6 87 13 0), ?_, hm, by show -10 - I2 39 3 = -10 - R.1; rw [k1], ?_⟩
    · rw [hrule, if_neg (by rw [k1]; exact e)]
    · show Inv m (g_u I6 87 13 0) J
      refine h.text ⟨0, by omega, ?_, u_eq rfl rfl, ?_, fun k hk => absurd hk (by omega)⟩ (fun a k q1 q2 => ?_) sj.rfl
      · rw [u_na (by omega), g2 _ _ (by omega) (by omega), eI4, u_eq rfl rfl]
        rfl
      · rw [u_na (by omega), g2 _ _ (by omega) (by omega), eI4, u_nk (by omega), k2, u_nk (by omega), w2]
      · unfold R_text at q1
        unfold scr at q2
        rw [u_ap, if_neg (by omega), g2 a k (by omega) (by omega)]
        exact f4 a k (by omega) (by omega) (by omega)
