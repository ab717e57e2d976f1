/-! a clause, of both -/
def rc (tx : Nat → Nat) (t a : Nat) (told : Int32) : Int32 × Nat × Nat × Int32 :=
  if c_w tx a (stp (is_le tx) t a) = -1 then (1, a, 0, 0)
  else if tb told (c_w tx a (stp (is_le tx) t a)).toNatClampNeg = true then (3, a, 0, 0)
  else if (rv tx t (stp (is_bl tx) t (stp (is_le tx) t a)) (c_w tx a (stp (is_le tx) t a)).toNatClampNeg).1 = 0 then
    (if stp (is_bl tx) t (rv tx t (stp (is_bl tx) t (stp (is_le tx) t a)) (c_w tx a (stp (is_le tx) t a)).toNatClampNeg).2.1 < t ∧ tx (stp (is_bl tx) t (rv tx t (stp (is_bl tx) t (stp (is_le tx) t a)) (c_w tx a (stp (is_le tx) t a)).toNatClampNeg).2.1) = 59 then
      (0, stp (is_bl tx) t (rv tx t (stp (is_bl tx) t (stp (is_le tx) t a)) (c_w tx a (stp (is_le tx) t a)).toNatClampNeg).2.1 + 1, (c_w tx a (stp (is_le tx) t a)).toNatClampNeg, (rv tx t (stp (is_bl tx) t (stp (is_le tx) t a)) (c_w tx a (stp (is_le tx) t a)).toNatClampNeg).2.2)
    else (1, stp (is_bl tx) t (rv tx t (stp (is_bl tx) t (stp (is_le tx) t a)) (c_w tx a (stp (is_le tx) t a)).toNatClampNeg).2.1, 0, 0))
  else ((rv tx t (stp (is_bl tx) t (stp (is_le tx) t a)) (c_w tx a (stp (is_le tx) t a)).toNatClampNeg).1, (rv tx t (stp (is_bl tx) t (stp (is_le tx) t a)) (c_w tx a (stp (is_le tx) t a)).toNatClampNeg).2.1, 0, 0)
theorem cw_v (tx : Nat → Nat) (a b : Nat) : c_w tx a b = -1 ∨ ∃ c, c < 8 ∧ c_w tx a b = nI c := by
  unfold c_w
  repeat' split
  · exact Or.inr ⟨0, by decide, rfl⟩
  · exact Or.inr ⟨1, by decide, rfl⟩
  · exact Or.inr ⟨2, by decide, rfl⟩
  · exact Or.inr ⟨3, by decide, rfl⟩
  · exact Or.inr ⟨4, by decide, rfl⟩
  · exact Or.inr ⟨5, by decide, rfl⟩
  · exact Or.inr ⟨6, by decide, rfl⟩
  · exact Or.inr ⟨7, by decide, rfl⟩
  · exact Or.inl rfl
theorem n_m1 : ∀ c, c < 8 → ¬ nI c = -1 := by decide +kernel
section CLS
variable {tx : Nat → Nat} {t : Nat} {I : gI}
/-- a clause by its parts -/
theorem rc_1 {a : Nat} {told : Int32} (h : c_w tx a (stp (is_le tx) t a) = -1) : rc tx t a told = (1, a, 0, 0) := by
  unfold rc
  rw [if_pos h]
theorem rc_2 {a c : Nat} {told : Int32} (hc : c < 8) (h : c_w tx a (stp (is_le tx) t a) = nI c) : rc tx t a told = if tb told c = true then (3, a, 0, 0) else if (rv tx t (stp (is_bl tx) t (stp (is_le tx) t a)) c).1 = 0 then (if stp (is_bl tx) t (rv tx t (stp (is_bl tx) t (stp (is_le tx) t a)) c).2.1 < t ∧ tx (stp (is_bl tx) t (rv tx t (stp (is_bl tx) t (stp (is_le tx) t a)) c).2.1) = 59 then (0, stp (is_bl tx) t (rv tx t (stp (is_bl tx) t (stp (is_le tx) t a)) c).2.1 + 1, c, (rv tx t (stp (is_bl tx) t (stp (is_le tx) t a)) c).2.2) else (1, stp (is_bl tx) t (rv tx t (stp (is_bl tx) t (stp (is_le tx) t a)) c).2.1, 0, 0)) else ((rv tx t (stp (is_bl tx) t (stp (is_le tx) t a)) c).1, (rv tx t (stp (is_bl tx) t (stp (is_le tx) t a)) c).2.1, 0, 0) := by
  unfold rc
  rw [h, if_neg (n_m1 c hc), nI_clamp (by omega)]
def CC (t : Nat) (I I2 : gI) (r : Int32 × Nat × Nat × Int32) : Prop := (∀ a k, ¬ (a = 39 ∧ 2 ≤ k ∧ k ≤ 4) → a ≠ 55 → ¬ (a = 54 ∧ k = 1) → I2 a k = I a k) ∧ (∃ z, z ≤ t ∧ I2 39 2 = nI z) ∧ (r.1 = 0 → r.2.2.1 < 8 ∧ r.2.1 ≤ t ∧ tb (I 54 1) r.2.2.1 = false ∧ I2 39 2 = nI r.2.1 ∧ I2 39 3 = 0 ∧ I2 39 4 = I 39 4 ∧ I2 54 1 = I 54 1 ||| 1 <<< nI r.2.2.1 ∧ ∀ k, I2 55 k = if k = r.2.2.1 then r.2.2.2 else I 55 k) ∧ (¬ r.1 = 0 → I2 39 3 = r.1 ∧ I2 39 4 = nI r.2.1)
theorem cls_c {a : Nat} (h : TC tx t I) (ha : I 39 2 = nI a) (hat : a ≤ t) (h3 : I 39 3 = 0) : ∃ I2, f_X6_readClause I = some I2 ∧ CC t I I2 (rc tx t a (I 54 1)) := by
  have ht := h.2.1
  have n1z : ¬ (1 : Int32) = 0 := by decide
  have n3z : ¬ (3 : Int32) = 0 := by decide
  obtain ⟨b1, b2, b3, -⟩ := stp_b' (P := is_le tx) hat
  have hcw := cw_c (I := I) h ha b1 b2
  unfold f_X6_readClause
  rw [word_c h ha hat, Option.bind_some, hcw, Option.bind_some]
  rcases cw_v tx a (stp (is_le tx) t a) with e | ⟨c, hc, e⟩
  · rw [rc_1 e, if_pos e]
    unfold f_X8_refuse
    refine ⟨_, rfl, fun x k q1 q2 q3 => ?_, ⟨a, hat, ?_⟩, fun q => absurd q n1z, fun _ => ⟨?_, ?_⟩⟩
    · rw [u_ap, if_neg (by omega), u_ap, if_neg (by omega)]
    · rw [u_nk (by omega), u_nk (by omega)]
      exact ha
    · rw [u_nk (by omega), u_eq rfl rfl]
    · rw [u_eq rfl rfl, ha]
  · rw [rc_2 hc e, e, if_neg (n_m1 c hc)]
    by_cases e2 : tb (I 54 1) c = true
    · rw [if_pos e2, if_neg (fun z => by rw [(tb_t0 _ (by omega)).mp z] at e2; cases e2)]
      unfold f_X8_refuse
      refine ⟨_, rfl, fun x k q1 q2 q3 => ?_, ⟨a, hat, ?_⟩, fun q => absurd q n3z, fun _ => ⟨?_, ?_⟩⟩
      · rw [u_ap, if_neg (by omega), u_ap, if_neg (by omega)]
      · rw [u_nk (by omega), u_nk (by omega)]
        exact ha
      · rw [u_nk (by omega), u_eq rfl rfl]
      · rw [u_eq rfl rfl, ha]
    · have e2' : tb (I 54 1) c = false := by simpa using e2
      rw [if_neg e2, if_pos ((tb_t0 _ (by omega)).mpr e2'), sh31 c (by omega)]
      obtain ⟨I1, eI1⟩ : ∃ I1, I1 = g_u (g_u I 54 1 (I 54 1 ||| 1 <<< nI c)) 39 2 (nI (stp (is_le tx) t a)) := ⟨_, rfl⟩
      rw [← eI1]
      have g1 : ∀ x k, ¬ (x = 39 ∧ k = 2) → ¬ (x = 54 ∧ k = 1) → I1 x k = I x k := fun x k q1 q2 => by rw [eI1, u_ap, if_neg q1, u_ap, if_neg q2]
      have t1 : I1 54 1 = I 54 1 ||| 1 <<< nI c := by rw [eI1, u_na (by omega), u_eq rfl rfl]
      obtain ⟨I2, s1, s2, s3⟩ := skip_c (tx := tx) (t := t) (I := I1) (p := stp (is_le tx) t a) (h.fr fun x k q => g1 x k (by omega) (by omega)) (by rw [eI1, u_eq rfl rfl]) b2
      obtain ⟨p1, p2, -⟩ := stp_b' (P := is_bl tx) b2
      rw [s1, Option.bind_some]
      generalize stp (is_bl tx) t (stp (is_le tx) t a) = p at *
      have hI2 : ∀ x k, ¬ (x = 39 ∧ k = 2) → ¬ (x = 54 ∧ k = 1) → I2 x k = I x k := fun x k q1 q2 => by rw [s2 x k q1, g1 x k q1 q2]
      have t2 : I2 54 1 = I 54 1 ||| 1 <<< nI c := by rw [s2 _ _ (by omega)]; exact t1
      obtain ⟨I3, v1, v2, v3, v4⟩ := vl_c (tx := tx) (t := t) (I := I2) (p := p) hc (h.fr fun x k q => hI2 x k (by omega) (by omega)) s3 p2
      obtain ⟨r1, r2⟩ := rv_le (tx := tx) (c := c) p2
      have e3 : (if 5 ≤ nI c then (f_X6_readChoice (nI c) I2).bind fun r10_ => f_X6_readClause_88 r10_ else (f_X6_readNumber (nI c) I2).bind fun r15_ => f_X6_readClause_88 r15_) = f_X6_readClause_88 I3 := by
        by_cases z : 5 ≤ nI c
        · rw [if_pos z] at v1 ⊢
          rw [v1]
          rfl
        · rw [if_neg z] at v1 ⊢
          rw [v1]
          rfl
      rw [e3]
      unfold f_X6_readClause_88 f_X8_isSound
      have f3 : ∀ x k, ¬ (x = 39 ∧ 2 ≤ k ∧ k ≤ 4) → x ≠ 55 → ¬ (x = 54 ∧ k = 1) → I3 x k = I x k := fun x k q1 q2 q3 => by rw [v2 x k q1 (by omega), hI2 x k (by omega) q3]
      have t3 : I3 54 1 = I 54 1 ||| 1 <<< nI c := by rw [v2 _ _ (by omega) (by omega)]; exact t2
      by_cases e4 : (rv tx t p c).1 = 0
      · obtain ⟨w1, w2, w3, w4⟩ := v3 e4
        have k3 : I3 39 3 = 0 := by rw [w2, hI2 _ _ (by omega) (by omega)]; exact h3
        rw [if_pos e4, k3, if_pos rfl, if_neg (by decide)]
        unfold f_X6_readClosing
        obtain ⟨I4, y1, y2, y3⟩ := skip_c (tx := tx) (t := t) (I := I3) (p := (rv tx t p c).2.1) (h.fr fun x k q => f3 x k (by omega) (by omega) (by omega)) w1 r2
        obtain ⟨z1, z2, -⟩ := stp_b' (P := is_bl tx) r2
        rw [y1, Option.bind_some, y3]
        generalize stp (is_bl tx) t (rv tx t p c).2.1 = r at *
        have h4 : TC tx t I4 := h.fr fun x k q => by rw [y2 x k (by omega), f3 x k (by omega) (by omega) (by omega)]
        rw [byte_c h4 (by omega), Option.bind_some, nI_1]
        have f4 : ∀ x k, ¬ (x = 39 ∧ 2 ≤ k ∧ k ≤ 4) → x ≠ 55 → ¬ (x = 54 ∧ k = 1) → I4 x k = I x k := fun x k q1 q2 q3 => by rw [y2 x k (by omega), f3 x k q1 q2 q3]
        by_cases e5 : r < t ∧ tx r = 59
        · rw [if_pos e5, if_pos (show (if r < t then nI (tx r) else -1) = 59 by rw [if_pos e5.1, e5.2]; rfl)]
          refine ⟨_, rfl, fun x k q1 q2 q3 => ?_, ⟨r + 1, by omega, u_eq rfl rfl⟩, fun _ => ⟨hc, by show r + 1 ≤ t; omega, e2', u_eq rfl rfl, ?_, ?_, ?_, fun k => ?_⟩, fun q => absurd rfl q⟩
          · rw [u_ap, if_neg (by omega)]
            exact f4 x k q1 q2 q3
          · rw [u_nk (by omega), y2 _ _ (by omega)]
            exact k3
          · rw [u_nk (by omega), y2 _ _ (by omega), w3, hI2 _ _ (by omega) (by omega)]
          · rw [u_na (by omega), y2 _ _ (by omega)]
            exact t3
          · try dsimp only
            rw [u_na (by omega), y2 _ _ (by omega)]
            by_cases e6 : k = c
            · rw [if_pos e6, e6]
              exact w4
            · rw [if_neg e6, v2 _ _ (by omega) (by omega), hI2 _ _ (by omega) (by omega)]
        · rw [if_neg e5, if_neg (show ¬ (if r < t then nI (tx r) else -1) = 59 from fun z => by
            by_cases q : r < t
            · rw [if_pos q] at z
              exact e5 ⟨q, (nI_eq (b := 59) (by have := (h.2.2 r q).2; omega) (by omega)).mp z⟩
            · rw [if_neg q] at z
              exact absurd z (by decide))]
          unfold f_X8_refuse
          refine ⟨_, rfl, fun x k q1 q2 q3 => ?_, ⟨r, z2, ?_⟩, fun q => absurd q n1z, fun _ => ⟨?_, ?_⟩⟩
          · rw [u_ap, if_neg (by omega), u_ap, if_neg (by omega)]
            exact f4 x k q1 q2 q3
          · rw [u_nk (by omega), u_nk (by omega)]
            exact y3
          · rw [u_nk (by omega), u_eq rfl rfl]
          · rw [u_eq rfl rfl]
      · obtain ⟨w1, w2, w3⟩ := v4 e4
        rw [if_neg e4, if_neg (show ¬ I3 39 3 = 0 by rw [w1]; exact e4), if_pos rfl]
        exact ⟨I3, rfl, f3, ⟨p, p2, by rw [w3]; exact s3⟩, fun q => absurd q e4, fun _ => ⟨w1, w2⟩⟩
/-! the model's -/
def CM (t : Nat) (I I2 : gI) (r : Int32 × Nat × Nat × Int32) : Prop := (∀ a k, ¬ (a = 87 ∧ ((14 ≤ k ∧ k ≤ 18) ∨ k = 21)) → a ≠ 101 → I2 a k = I a k) ∧ (r.1 = 0 → r.2.2.1 < 8 ∧ r.2.1 ≤ t ∧ tb (I 87 21) r.2.2.1 = false ∧ I2 87 14 = nI r.2.1 ∧ I2 87 15 = 0 ∧ I2 87 16 = I 87 16 ∧ I2 87 21 = I 87 21 ||| 1 <<< nI r.2.2.1 ∧ ∀ k, I2 101 k = if k = r.2.2.1 then r.2.2.2 else I 101 k) ∧ (¬ r.1 = 0 → I2 87 15 = r.1 ∧ I2 87 16 = nI r.2.1)
theorem cls_m {a0 : Nat} (h : TM tx t I) (ha : I 87 14 = nI a0) (hat : a0 ≤ t) (h15 : I 87 15 = 0) : ∃ I2, f_X10_readClause I = some I2 ∧ CM t I I2 (rc tx t (stp (is_bl tx) t a0) (I 87 21)) := by
  have ht := h.2.1
  have n1z : ¬ (1 : Int32) = 0 := by decide
  have n3z : ¬ (3 : Int32) = 0 := by decide
  obtain ⟨a1, a2, -⟩ := stp_b' (P := is_bl tx) hat
  obtain ⟨I1, t1, t2, t3, t4, t5⟩ := take_m h ha hat
  unfold f_X10_readClause
  rw [h.1, t1, Option.bind_some]
  generalize stp (is_bl tx) t a0 = a at *
  obtain ⟨b1, b2, b3, -⟩ := stp_b' (P := is_le tx) a2
  have h1 : TM tx t I1 := h.fr fun x k q => t2 x k (by omega)
  have e15 : I1 87 15 = 0 := by rw [t2 _ _ (by omega)]; exact h15
  have e21 : I1 87 21 = I 87 21 := t2 _ _ (by omega)
  rw [cw_m h1 t3 t5 b1 b2 b3, Option.bind_some]
  rcases cw_v tx a (stp (is_le tx) t a) with e | ⟨c, hc, e⟩
  · rw [rc_1 e, e, if_pos (by decide)]
    unfold f_X10_readClause_23
    rw [want_f e15 (by decide), if_pos rfl, t3]
    refine ⟨_, rfl, fun x k q1 q2 => ?_, fun q => absurd q n1z, fun _ => ⟨?_, ?_⟩⟩
    · try dsimp only
      rw [u_ap, if_neg (by omega), u_ap, if_neg (by omega), t2 x k (by omega)]
    · try dsimp only
      rw [u_nk (by omega), u_eq rfl rfl]
    · try dsimp only
      rw [u_eq rfl rfl]
  · rw [rc_2 hc e, e, if_neg (nI_pos (by omega))]
    unfold f_X10_readClause_23
    rw [want_t e15, if_neg (show ¬ true = false by decide)]
    have e51 : ∀ b : Bool, b = (!tb (I 87 21) c) → ∃ I2, f_X10_readClause_51 (nI c) b I1 = some I2 ∧ CM t I I2 (if tb (I 87 21) c = true then (3, a, 0, 0) else if (rv tx t (stp (is_bl tx) t (stp (is_le tx) t a)) c).1 = 0 then (if stp (is_bl tx) t (rv tx t (stp (is_bl tx) t (stp (is_le tx) t a)) c).2.1 < t ∧ tx (stp (is_bl tx) t (rv tx t (stp (is_bl tx) t (stp (is_le tx) t a)) c).2.1) = 59 then (0, stp (is_bl tx) t (rv tx t (stp (is_bl tx) t (stp (is_le tx) t a)) c).2.1 + 1, c, (rv tx t (stp (is_bl tx) t (stp (is_le tx) t a)) c).2.2) else (1, stp (is_bl tx) t (rv tx t (stp (is_bl tx) t (stp (is_le tx) t a)) c).2.1, 0, 0)) else ((rv tx t (stp (is_bl tx) t (stp (is_le tx) t a)) c).1, (rv tx t (stp (is_bl tx) t (stp (is_le tx) t a)) c).2.1, 0, 0)) := by
      intro b hb
      unfold f_X10_readClause_51
      by_cases e2 : tb (I 87 21) c = true
      · rw [e2] at hb
        rw [hb, if_pos e2, show (!true) = false from rfl, want_f e15 (by decide), if_neg (show ¬ false = true by decide), t3]
        refine ⟨_, rfl, fun x k q1 q2 => ?_, fun q => absurd q n3z, fun _ => ⟨?_, ?_⟩⟩
        · try dsimp only
          rw [u_ap, if_neg (by omega), u_ap, if_neg (by omega), t2 x k (by omega)]
        · try dsimp only
          rw [u_nk (by omega), u_eq rfl rfl]
        · try dsimp only
          rw [u_eq rfl rfl]
      · have e2' : tb (I 87 21) c = false := by simpa using e2
        rw [e2'] at hb
        rw [hb, if_neg e2, show (!false) = true from rfl, want_t e15, if_pos rfl, sh31 c (by omega)]
        try dsimp only
        rw [e21]
        obtain ⟨I2, eI2⟩ : ∃ I2, I2 = g_u I1 87 21 (I 87 21 ||| 1 <<< nI c) := ⟨_, rfl⟩
        rw [← eI2]
        have g2 : ∀ x k, ¬ (x = 87 ∧ k = 21) → I2 x k = I1 x k := fun x k q => by rw [eI2, u_ap, if_neg q]
        obtain ⟨I3, v1, v2, ⟨z, zt, v3⟩, v4, v5⟩ := vl_m (tx := tx) (t := t) (I := I2) (b := stp (is_le tx) t a) hc (h1.fr fun x k q => g2 x k (by omega)) (by rw [g2 _ _ (by omega)]; exact t4) b2 (by rw [g2 _ _ (by omega)]; exact e15)
        obtain ⟨p1, p2, -⟩ := stp_b' (P := is_bl tx) b2
        generalize stp (is_bl tx) t (stp (is_le tx) t a) = p at *
        obtain ⟨r1, r2⟩ := rv_le (tx := tx) (c := c) p2
        have h3 : TM tx t I3 := h1.fr fun x k q => by rw [v2 x k (by omega) (by omega), g2 x k (by omega)]
        rw [v1, Option.bind_some, h3.1]
        have f3 : ∀ x k, ¬ (x = 87 ∧ ((14 ≤ k ∧ k ≤ 18) ∨ k = 21)) → x ≠ 101 → I3 x k = I x k := fun x k q1 q2 => by rw [v2 x k (by omega) (by omega), g2 x k (by omega), t2 x k (by omega)]
        have q21 : I3 87 21 = I 87 21 ||| 1 <<< nI c := by rw [v2 _ _ (by omega) (by omega), eI2, u_eq rfl rfl]
        by_cases e4 : (rv tx t p c).1 = 0
        · obtain ⟨w1, w2, w3, w4⟩ := v4 e4
          obtain ⟨I4, y1, y2, y3⟩ := here_m h3 w1 r2
          obtain ⟨z1, z2, -⟩ := stp_b' (P := is_bl tx) r2
          rw [if_pos e4, y1, Option.bind_some]
          generalize stp (is_bl tx) t (rv tx t p c).2.1 = r at *
          have f4 : ∀ x k, ¬ (x = 87 ∧ ((14 ≤ k ∧ k ≤ 18) ∨ k = 21)) → x ≠ 101 → I4 x k = I x k := fun x k q1 q2 => by rw [y2 x k (by omega), f3 x k q1 q2]
          have k15 : I4 87 15 = 0 := by rw [y2 _ _ (by omega)]; exact w2
          have k21 : I4 87 21 = I 87 21 ||| 1 <<< nI c := by rw [y2 _ _ (by omega)]; exact q21
          have k16 : I4 87 16 = I 87 16 := by rw [y2 _ _ (by omega), w3, g2 _ _ (by omega), t2 _ _ (by omega)]
          rw [if_pos (show ((if r < t then nI (tx r) else -1, I4) : Int32 × gI).2 87 15 = 0 from k15)]
          unfold f_X10_readClause_108
          try dsimp only
          by_cases e5 : r < t ∧ tx r = 59
          · rw [if_pos (show (if r < t then nI (tx r) else -1) = 59 by rw [if_pos e5.1, e5.2]; rfl), want_t k15, if_neg (show ¬ true = false by decide), if_pos e5]
            refine ⟨_, rfl, fun x k q1 q2 => ?_, fun _ => ⟨hc, by show r + 1 ≤ t; omega, e2', ?_, ?_, ?_, ?_, fun k => ?_⟩, fun q => absurd rfl q⟩
            · try dsimp only
              rw [u_ap, if_neg (by omega)]
              exact f4 x k q1 q2
            · try dsimp only
              rw [u_eq rfl rfl, y3, nI_1]
            · try dsimp only
              rw [u_nk (by omega)]
              exact k15
            · try dsimp only
              rw [u_nk (by omega)]
              exact k16
            · try dsimp only
              rw [u_nk (by omega)]
              exact k21
            · try dsimp only
              rw [u_na (by omega), y2 _ _ (by omega)]
              by_cases e6 : k = c
              · rw [if_pos e6, e6]
                exact w4
              · rw [if_neg e6, v2 _ _ (by omega) (by omega), g2 _ _ (by omega), t2 _ _ (by omega)]
          · rw [if_neg (show ¬ (if r < t then nI (tx r) else -1) = 59 from fun z => by
              by_cases q : r < t
              · rw [if_pos q] at z
                exact e5 ⟨q, (nI_eq (b := 59) (by have := (h.2.2 r q).2; omega) (by omega)).mp z⟩
              · rw [if_neg q] at z
                exact absurd z (by decide)), want_f k15 (by decide), if_pos rfl, if_neg e5]
            refine ⟨_, rfl, fun x k q1 q2 => ?_, fun q => absurd q n1z, fun _ => ⟨?_, ?_⟩⟩
            · try dsimp only
              rw [u_ap, if_neg (by omega), u_ap, if_neg (by omega)]
              exact f4 x k q1 q2
            · try dsimp only
              rw [u_nk (by omega), u_eq rfl rfl]
            · try dsimp only
              rw [u_eq rfl rfl]
              exact y3
        · obtain ⟨w1, w2⟩ := v5 e4
          obtain ⟨I4, y1, y2, y3⟩ := here_m h3 v3 zt
          have k15 : ¬ I4 87 15 = 0 := by rw [y2 _ _ (by omega), w1]; exact e4
          rw [if_neg e4, y1, Option.bind_some, if_neg (show ¬ ((if stp (is_bl tx) t z < t then nI (tx (stp (is_bl tx) t z)) else -1, I4) : Int32 × gI).2 87 15 = 0 from k15)]
          refine ⟨_, rfl, fun x k q1 q2 => ?_, fun q => absurd q e4, fun _ => ⟨?_, ?_⟩⟩
          · try dsimp only
            rw [y2 x k (by omega)]
            exact f3 x k q1 q2
          · try dsimp only
            rw [y2 _ _ (by omega)]
            exact w1
          · try dsimp only
            rw [y2 _ _ (by omega)]
            exact w2
    refine e51 _ ?_
    show (if ((I1 87 21 >>> (nI c &&& 31)) &&& 1) = 0 then true else false) = _
    rw [e21]
    by_cases e2 : tb (I 87 21) c = true
    · rw [if_neg (fun z => by rw [(tb_t0 _ (by omega)).mp z] at e2; cases e2), e2]
      rfl
    · have e2' : tb (I 87 21) c = false := by simpa using e2
      rw [if_pos ((tb_t0 _ (by omega)).mpr e2'), e2']
      rfl
end CLS
