/-! order -/
def wr (tx : Nat → Nat) (t a : Nat) (told : Int32) : Int32 × Nat × Nat :=
  if or_w tx a (stp (is_le tx) t a) = -1 then (1, a, 0)
  else if tb told (or_w tx a (stp (is_le tx) t a)).toNatClampNeg = true then (3, a, 0)
  else (0, stp (is_le tx) t a, (or_w tx a (stp (is_le tx) t a)).toNatClampNeg)
/-- the whole text, as the class reads it: on behind byte 60 -/
def goc (tx : Nat → Nat) (t : Nat) : Nat → Nat → Int32 → (Nat → Int32) → Nat → Int32 × Nat × Nat × (Nat → Int32)
  | 0, _, _, ws, many => (0, 0, many, ws)
  | d + 1, a, told, ws, many =>
    if t ≤ a then (0, 0, many, ws)
    else if (wr tx t a told).1 = 0 then goc tx t d (stp (is_bl tx) t (wr tx t a told).2.1) (told ||| 1 <<< nI (wr tx t a told).2.2) (up8 ws many (nI (wr tx t a told).2.2)) (many + 1)
    else ((wr tx t a told).1, (wr tx t a told).2.1, many, ws)
/-- and as the model reads it -/
def gom (tx : Nat → Nat) (t : Nat) : Nat → Nat → Int32 → (Nat → Int32) → Nat → Int32 × Nat × Nat × (Nat → Int32)
  | 0, _, _, ws, many => (0, 0, many, ws)
  | d + 1, a, told, ws, many =>
    if t ≤ a ∨ 60 ≤ a then (0, 0, many, ws)
    else if (wr tx t a told).1 = 0 then gom tx t d (stp (is_bl tx) t (wr tx t a told).2.1) (told ||| 1 <<< nI (wr tx t a told).2.2) (up8 ws many (nI (wr tx t a told).2.2)) (many + 1)
    else ((wr tx t a told).1, (wr tx t a told).2.1, many, ws)
theorem ow_v (tx : Nat → Nat) (a b : Nat) : or_w tx a b = -1 ∨ ∃ c, c < 5 ∧ or_w tx a b = nI c := by
  unfold or_w
  repeat' split
  · exact Or.inr ⟨0, by decide, rfl⟩
  · exact Or.inr ⟨1, by decide, rfl⟩
  · exact Or.inr ⟨2, by decide, rfl⟩
  · exact Or.inr ⟨3, by decide, rfl⟩
  · exact Or.inr ⟨4, by decide, rfl⟩
  · exact Or.inl rfl
section ORD
variable {tx : Nat → Nat} {t : Nat}
theorem wr_1 {a : Nat} {told : Int32} (h : or_w tx a (stp (is_le tx) t a) = -1) : wr tx t a told = (1, a, 0) := by
  unfold wr
  rw [if_pos h]
theorem wr_2 {a c : Nat} {told : Int32} (hc : c < 5) (h : or_w tx a (stp (is_le tx) t a) = nI c) : wr tx t a told = if tb told c = true then (3, a, 0) else (0, stp (is_le tx) t a, c) := by
  unfold wr
  rw [h, if_neg (n_m1 c (by omega)), nI_clamp (by omega)]
theorem wr_v (a : Nat) (told : Int32) (hat : a ≤ t) : ((wr tx t a told).1 = 0 ∧ (wr tx t a told).2.2 < 5 ∧ a ≤ (wr tx t a told).2.1 ∧ (wr tx t a told).2.1 ≤ t ∧ tb told (wr tx t a told).2.2 = false) ∨ (((wr tx t a told).1 = 1 ∨ (wr tx t a told).1 = 3) ∧ (wr tx t a told).2.1 = a) := by
  obtain ⟨b1, b2, -⟩ := stp_b' (P := is_le tx) hat
  rcases ow_v tx a (stp (is_le tx) t a) with e | ⟨c, hc, e⟩
  · rw [wr_1 e]
    exact Or.inr ⟨Or.inl rfl, rfl⟩
  · rw [wr_2 hc e]
    by_cases e2 : tb told c = true
    · rw [if_pos e2]
      exact Or.inr ⟨Or.inr rfl, rfl⟩
    · rw [if_neg e2]
      exact Or.inl ⟨rfl, hc, b1, b2, by simpa using e2⟩
theorem goc_t : ∀ (d a : Nat) (told : Int32) (ws : Nat → Int32) (many : Nat), a ≤ t → 60 ≤ a → (goc tx t d a told ws many).1 = 0 ∨ (60 ≤ (goc tx t d a told ws many).2.1 ∧ (goc tx t d a told ws many).2.1 ≤ t) := by
  intro d
  induction d with
  | zero => intro a told ws many _ _; exact Or.inl rfl
  | succ d ih =>
    intro a told ws many h1 h2
    unfold goc
    by_cases e : t ≤ a
    · rw [if_pos e]
      exact Or.inl rfl
    · rw [if_neg e]
      rcases wr_v (tx := tx) (t := t) a told h1 with ⟨k1, k2, k3, k4, k5⟩ | ⟨k1, k2⟩
      · rw [if_pos k1]
        obtain ⟨s1, s2, -⟩ := stp_b' (P := is_bl tx) k4
        exact ih _ _ _ _ s2 (by omega)
      · rw [if_neg (by rcases k1 with z | z <;> rw [z] <;> decide)]
        right
        show 60 ≤ (wr tx t a told).2.1 ∧ (wr tx t a told).2.1 ≤ t
        rw [k2]
        exact ⟨h2, h1⟩
theorem go_rel : ∀ (d a : Nat) (told : Int32) (ws : Nat → Int32) (many : Nat), a ≤ t → (¬ (gom tx t d a told ws many).1 = 0 → (goc tx t d a told ws many).1 = (gom tx t d a told ws many).1 ∧ (goc tx t d a told ws many).2.1 = (gom tx t d a told ws many).2.1 ∧ (gom tx t d a told ws many).2.1 < 60 ∧ ((gom tx t d a told ws many).1 = 1 ∨ (gom tx t d a told ws many).1 = 3)) ∧ ((gom tx t d a told ws many).1 = 0 → t ≤ 60 → (goc tx t d a told ws many).1 = 0 ∧ (goc tx t d a told ws many).2.2.1 = (gom tx t d a told ws many).2.2.1 ∧ (goc tx t d a told ws many).2.2.2 = (gom tx t d a told ws many).2.2.2) ∧ ((gom tx t d a told ws many).1 = 0 → 60 < t → (goc tx t d a told ws many).1 = 0 ∨ (60 ≤ (goc tx t d a told ws many).2.1 ∧ (goc tx t d a told ws many).2.1 ≤ t)) := by
  intro d
  induction d with
  | zero => intro a told ws many _; exact ⟨fun q => absurd rfl q, fun _ _ => ⟨rfl, rfl, rfl⟩, fun _ _ => Or.inl rfl⟩
  | succ d ih =>
    intro a told ws many h1
    by_cases e : t ≤ a
    · have e1 : gom tx t (d + 1) a told ws many = (0, 0, many, ws) := if_pos (Or.inl e)
      have e2 : goc tx t (d + 1) a told ws many = (0, 0, many, ws) := if_pos e
      rw [e1, e2]
      exact ⟨fun q => absurd rfl q, fun _ _ => ⟨rfl, rfl, rfl⟩, fun _ _ => Or.inl rfl⟩
    · by_cases f : 60 ≤ a
      · have e1 : gom tx t (d + 1) a told ws many = (0, 0, many, ws) := if_pos (Or.inr f)
        rw [e1]
        exact ⟨fun q => absurd rfl q, fun _ q => by omega, fun _ _ => goc_t (d + 1) a told ws many h1 f⟩
      · rcases wr_v (tx := tx) (t := t) a told h1 with ⟨k1, k2, k3, k4, k5⟩ | ⟨k1, k2⟩
        · have e1 : gom tx t (d + 1) a told ws many = gom tx t d (stp (is_bl tx) t (wr tx t a told).2.1) (told ||| 1 <<< nI (wr tx t a told).2.2) (up8 ws many (nI (wr tx t a told).2.2)) (many + 1) := by
            show (if t ≤ a ∨ 60 ≤ a then _ else _) = _
            rw [if_neg (by omega), if_pos k1]
          have e2 : goc tx t (d + 1) a told ws many = goc tx t d (stp (is_bl tx) t (wr tx t a told).2.1) (told ||| 1 <<< nI (wr tx t a told).2.2) (up8 ws many (nI (wr tx t a told).2.2)) (many + 1) := by
            show (if t ≤ a then _ else _) = _
            rw [if_neg e, if_pos k1]
          rw [e1, e2]
          obtain ⟨s1, s2, -⟩ := stp_b' (P := is_bl tx) k4
          exact ih _ _ _ _ s2
        · have kn : ¬ (wr tx t a told).1 = 0 := by rcases k1 with z | z <;> rw [z] <;> decide
          have e1 : gom tx t (d + 1) a told ws many = ((wr tx t a told).1, (wr tx t a told).2.1, many, ws) := by
            show (if t ≤ a ∨ 60 ≤ a then _ else _) = _
            rw [if_neg (by omega), if_neg kn]
          have e2 : goc tx t (d + 1) a told ws many = ((wr tx t a told).1, (wr tx t a told).2.1, many, ws) := by
            show (if t ≤ a then _ else _) = _
            rw [if_neg e, if_neg kn]
          rw [e1, e2]
          refine ⟨fun _ => ⟨rfl, rfl, ?_, k1⟩, fun q => absurd q kn, fun q => absurd q kn⟩
          show (wr tx t a told).2.1 < 60
          rw [k2]
          omega
/-! the class's -/
def RO (I0 I : gI) : Prop := ∀ a k, ¬ (a = 39 ∧ 2 ≤ k ∧ k ≤ 4) → ¬ (85 ≤ a ∧ a ≤ 86) → I a k = I0 a k
def WC (t len : Nat) (I I2 : gI) (r : Int32 × Nat × Nat) : Prop := RO I I2 ∧ (∃ z, z ≤ t ∧ I2 39 2 = nI z) ∧ (r.1 = 0 → I2 39 2 = nI r.2.1 ∧ I2 39 3 = 0 ∧ I2 39 4 = I 39 4 ∧ I2 85 1 = nI (len + 1) ∧ I2 85 2 = I 85 2 ||| 1 <<< nI r.2.2 ∧ ∀ k, I2 86 k = if k = len then nI r.2.2 else I 86 k) ∧ (¬ r.1 = 0 → I2 39 3 = r.1 ∧ I2 39 4 = nI r.2.1)
theorem wd_c {I : gI} {a len : Nat} (h : TC tx t I) (ha : I 39 2 = nI a) (hat : a ≤ t) (h3 : I 39 3 = 0) (hl : I 85 1 = nI len) (hlo : lowN 5 (I 85 2)) (hb : f_J6_bitCount_0f7a4 (I 85 2) = nI len) (hl5 : len ≤ 5) : ∃ I2, f_X5_readWord I = some I2 ∧ WC t len I I2 (wr tx t a (I 85 2)) := by
  have n1z : ¬ (1 : Int32) = 0 := by decide
  have n3z : ¬ (3 : Int32) = 0 := by decide
  obtain ⟨b1, b2, -⟩ := stp_b' (P := is_le tx) hat
  unfold f_X5_readWord f_X5_readWord_45
  rw [word_c h ha hat, Option.bind_some, ow_c h ha b1 b2, Option.bind_some]
  rcases ow_v tx a (stp (is_le tx) t a) with e | ⟨c, hc, e⟩
  · rw [wr_1 e, if_pos e]
    unfold f_X8_refuse
    refine ⟨_, rfl, fun x k q1 q2 => ?_, ⟨a, hat, ?_⟩, fun q => absurd q n1z, fun _ => ⟨?_, ?_⟩⟩
    · rw [u_ap, if_neg (by omega), u_ap, if_neg (by omega)]
    · rw [u_nk (by omega), u_nk (by omega)]
      exact ha
    · rw [u_nk (by omega), u_eq rfl rfl]
    · rw [u_eq rfl rfl, ha]
  · rw [wr_2 hc e, e, if_neg (n_m1 c (by omega))]
    by_cases e2 : tb (I 85 2) c = true
    · rw [if_pos e2, if_neg (fun z => by rw [(tb_t0 _ (by omega)).mp z] at e2; cases e2)]
      unfold f_X8_refuse
      refine ⟨_, rfl, fun x k q1 q2 => ?_, ⟨a, hat, ?_⟩, fun q => absurd q n3z, fun _ => ⟨?_, ?_⟩⟩
      · rw [u_ap, if_neg (by omega), u_ap, if_neg (by omega)]
      · rw [u_nk (by omega), u_nk (by omega)]
        exact ha
      · rw [u_nk (by omega), u_eq rfl rfl]
      · rw [u_eq rfl rfl, ha]
    · have e2' : tb (I 85 2) c = false := by simpa using e2
      have hlen : len < 5 := by
        have := bcN (lowN_or hlo hc (by omega)) (by omega) (c := len + 1) (by omega) (by rw [bc_up (hlo.low (by omega)) (by omega) e2', hb, nI_1])
        omega
      rw [if_neg e2, if_pos ((tb_t0 _ (by omega)).mpr e2'), hl, if_pos (show nI len < 5 from nI_lt (b := 5) hlen (by omega)), sh31 c (by omega), show (g_u I 85 2 (I 85 2 ||| 1 <<< nI c)) 85 1 = nI len by rw [u_nk (by omega)]; exact hl, gin_nI hlen (by omega), if_pos rfl, nI_clamp (by omega), show (g_u (g_u I 85 2 (I 85 2 ||| 1 <<< nI c)) 86 len (nI c)) 85 1 = nI len by rw [u_na (by omega), u_nk (by omega)]; exact hl, nI_1]
      refine ⟨_, rfl, fun x k q1 q2 => ?_, ⟨stp (is_le tx) t a, b2, u_eq rfl rfl⟩, fun _ => ⟨u_eq rfl rfl, ?_, ?_, ?_, ?_, fun k => ?_⟩, fun q => absurd rfl q⟩
      · rw [u_ap, if_neg (by omega), u_ap, if_neg (by omega), u_ap, if_neg (by omega), u_ap, if_neg (by omega)]
      · rw [u_nk (by omega), u_na (by omega), u_na (by omega), u_na (by omega)]
        exact h3
      · rw [u_nk (by omega), u_na (by omega), u_na (by omega), u_na (by omega)]
      · rw [u_na (by omega), u_eq rfl rfl]
      · rw [u_na (by omega), u_nk (by omega), u_na (by omega), u_eq rfl rfl]
      · rw [u_na (by omega), u_na (by omega)]
        by_cases z : k = len
        · rw [if_pos z, u_eq rfl z]
        · rw [if_neg z, u_nk z, u_na (by omega)]
theorem ro_end {I : gI} {x : Int32} (fu : Nat) (h : ¬ I 39 3 = 0) : f_X5_read_20 (fu + 1) x I = f_X5_read_58 I := by
  rw [f_X5_read_20]
  unfold f_X8_isSound
  rw [if_neg h]
  split
  · rfl
  · split
    · rfl
    · rw [if_pos rfl]
theorem run_oc {I0 : gI} (h0 : TC tx t I0) : ∀ (d many a fu : Nat) (told : Int32) (ws : Nat → Int32) (I : gI), many + d = 6 → d + 1 < fu → RO I0 I → I 39 2 = nI a → a ≤ t → I 39 3 = 0 → I 39 4 = -1 → I 85 1 = nI many → I 85 2 = told → (∀ k, k < many → I 86 k = ws k) → lowN 5 told → f_J6_bitCount_0f7a4 told = nI many → ∃ I2, f_X5_read_20 fu (nI many) I = f_X5_read_58 I2 ∧ RO I0 I2 ∧ ((goc tx t d a told ws many).1 = 0 → I2 39 3 = 0 ∧ I2 39 4 = -1 ∧ (goc tx t d a told ws many).2.2.1 ≤ 5 ∧ I2 85 1 = nI (goc tx t d a told ws many).2.2.1 ∧ ∀ k, k < (goc tx t d a told ws many).2.2.1 → I2 86 k = (goc tx t d a told ws many).2.2.2 k) ∧ (¬ (goc tx t d a told ws many).1 = 0 → I2 39 3 = (goc tx t d a told ws many).1 ∧ I2 39 4 = nI (goc tx t d a told ws many).2.1) := by
  have ht := h0.2.1
  intro d
  induction d with
  | zero =>
    intro many a fu told ws I h1 h2 h3 h4 h5 h7 h8 h9 h10 h11 h12 h13
    have := bcN h12 (by omega) (by omega) h13
    omega
  | succ d ih =>
    intro many a fu told ws I h1 h2 h3 h4 h5 h7 h8 h9 h10 h11 h12 h13
    obtain ⟨fu, rfl⟩ : ∃ f, fu = f + 1 := ⟨fu - 1, by omega⟩
    have hT : TC tx t I := h0.fr fun x k q => h3 x k (by omega) (by omega)
    have hm5 : many ≤ 5 := bcN h12 (by omega) (by omega) h13
    rw [f_X5_read_20, if_neg (show ¬ (5 : Int32) < nI many from nI_nlt (a := 5) hm5 (by omega)), hT.1, h4]
    unfold goc
    by_cases e : t ≤ a
    · rw [if_pos (nI_le e (by omega)), if_pos e]
      exact ⟨I, rfl, h3, fun _ => ⟨h7, h8, hm5, h9, h11⟩, fun q => absurd rfl q⟩
    · rw [if_neg (nI_ge (by omega) (by omega)), if_neg e, if_neg (by unfold f_X8_isSound; rw [if_pos h7]; decide)]
      obtain ⟨I1, c1, c2, ⟨z, zt, c3⟩, c4, c5⟩ := wd_c hT h4 h5 h7 h9 (by rw [h10]; exact h12) (by rw [h10]; exact h13) hm5
      rw [h10] at c4 c5
      have r1 : RO I0 I1 := fun x k q1 q2 => by rw [c2 x k q1 q2]; exact h3 x k q1 q2
      rw [c1, Option.bind_some, nI_1]
      have hT1 : TC tx t I1 := h0.fr fun x k q => r1 x k (by omega) (by omega)
      rcases wr_v (tx := tx) (t := t) a told h5 with ⟨v1, v2, v3, v4, v5⟩ | ⟨v1, v2⟩
      · obtain ⟨k4, k5, k6, k7, k8, k9⟩ := c4 v1
        obtain ⟨I2, s1, s2, s3⟩ := skip_c hT1 k4 v4
        obtain ⟨p1, p2, -⟩ := stp_b' (P := is_bl tx) v4
        rw [if_pos v1, s1, Option.bind_some]
        refine ih (many + 1) _ fu _ _ I2 (by omega) (by omega) (fun x k q1 q2 => by rw [s2 x k (by omega)]; exact r1 x k q1 q2) s3 p2 (by rw [s2 _ _ (by omega)]; exact k5) (by rw [s2 _ _ (by omega), k6]; exact h8) (by rw [s2 _ _ (by omega)]; exact k7) (by rw [s2 _ _ (by omega)]; exact k8) (fun k hk => ?_) (lowN_or h12 v2 (by omega)) ?_
        · rw [s2 _ _ (by omega), k9 k]
          unfold up8
          by_cases z : k = many
          · rw [if_pos z, if_pos z]
          · rw [if_neg z, if_neg z]
            exact h11 k (by omega)
        · rw [bc_up (h12.low (by omega)) (by omega) v5, h13, nI_1]
      · have kn : ¬ (wr tx t a told).1 = 0 := by rcases v1 with z | z <;> rw [z] <;> decide
        obtain ⟨k1, k2⟩ := c5 kn
        obtain ⟨I2, s1, s2, s3⟩ := skip_c hT1 c3 zt
        obtain ⟨fu, rfl⟩ : ∃ f, fu = f + 1 := ⟨fu - 1, by omega⟩
        have k3 : I2 39 3 = (wr tx t a told).1 := by rw [s2 _ _ (by omega)]; exact k1
        rw [if_neg kn, s1, Option.bind_some, ro_end fu (by rw [k3]; exact kn)]
        exact ⟨I2, rfl, fun x k q1 q2 => by rw [s2 x k (by omega)]; exact r1 x k q1 q2, fun q => absurd q kn, fun _ => ⟨k3, by rw [s2 _ _ (by omega)]; exact k2⟩⟩
/-! the model's -/
theorem want_x {x1 x2 x3 : Int32} {I : gI} (h : ¬ I 87 15 = 0) : f_X10_want x1 x2 x3 I = (false, I) := by
  unfold f_X10_want f_X10_want_21
  rw [if_neg h, if_neg h]
  split <;> rfl
def QM (I0 I : gI) : Prop := ∀ a k, ¬ (a = 87 ∧ 14 ≤ k ∧ k ≤ 18) → a ≠ 101 → I a k = I0 a k
theorem run_om {I0 : gI} (h0 : TM tx t I0) : ∀ (d many a fu : Nat) (told : Int32) (ws : Nat → Int32) (I : gI), many + d = 6 → d + 1 < fu → QM I0 I → I 87 14 = nI a → a ≤ t → I 87 15 = 0 → I 87 16 = -1 → (∀ k, k < many → I 101 k = ws k) → lowN 5 told → f_J6_bitCount_0f7a4 told = nI many → ∃ I2 x2, f_X10_order_19 fu told (nI many) I = f_X10_order_124 x2 I2 ∧ QM I0 I2 ∧ ((gom tx t d (stp (is_bl tx) t a) told ws many).1 = 0 → I2 87 15 = 0 ∧ I2 87 16 = -1 ∧ (gom tx t d (stp (is_bl tx) t a) told ws many).2.2.1 ≤ 5 ∧ x2 = nI (gom tx t d (stp (is_bl tx) t a) told ws many).2.2.1 ∧ ∀ k, k < (gom tx t d (stp (is_bl tx) t a) told ws many).2.2.1 → I2 101 k = (gom tx t d (stp (is_bl tx) t a) told ws many).2.2.2 k) ∧ (¬ (gom tx t d (stp (is_bl tx) t a) told ws many).1 = 0 → I2 87 15 = (gom tx t d (stp (is_bl tx) t a) told ws many).1 ∧ I2 87 16 = nI (gom tx t d (stp (is_bl tx) t a) told ws many).2.1) := by
  have ht := h0.2.1
  intro d
  induction d with
  | zero =>
    intro many a fu told ws I h1 h2 h3 h4 h5 h7 h8 h11 h12 h13
    have := bcN h12 (by omega) (by omega) h13
    omega
  | succ d ih =>
    intro many a fu told ws I h1 h2 h3 h4 h5 h7 h8 h11 h12 h13
    obtain ⟨fu, rfl⟩ : ∃ f, fu = f + 1 := ⟨fu - 1, by omega⟩
    have hT : TM tx t I := h0.fr fun x k q => h3 x k (by omega) (by omega)
    have hm5 : many ≤ 5 := bcN h12 (by omega) (by omega) h13
    obtain ⟨I1, e1, e2, e3⟩ := here_m hT h4 h5
    obtain ⟨p1, p2, -⟩ := stp_b' (P := is_bl tx) h5
    have hid := stp_id (P := is_bl tx) h5
    rw [f_X10_order_19, if_pos h7, hT.1, e1, Option.bind_some]
    generalize stp (is_bl tx) t a = q at *
    have r1 : QM I0 I1 := fun x k q1 q2 => by rw [e2 x k (by omega)]; exact h3 x k q1 q2
    have hT1 : TM tx t I1 := h0.fr fun x k z => r1 x k (by omega) (by omega)
    have z15 : I1 87 15 = 0 := by rw [e2 _ _ (by omega)]; exact h7
    have z16 : I1 87 16 = -1 := by rw [e2 _ _ (by omega)]; exact h8
    have stop : ∃ I2 x2, f_X10_order_124 (nI many) I1 = f_X10_order_124 x2 I2 ∧ QM I0 I2 ∧ (((0 : Int32), (0 : Nat), many, ws).1 = 0 → I2 87 15 = 0 ∧ I2 87 16 = -1 ∧ ((0 : Int32), (0 : Nat), many, ws).2.2.1 ≤ 5 ∧ x2 = nI ((0 : Int32), (0 : Nat), many, ws).2.2.1 ∧ ∀ k, k < ((0 : Int32), (0 : Nat), many, ws).2.2.1 → I2 101 k = ((0 : Int32), (0 : Nat), many, ws).2.2.2 k) ∧ (¬ ((0 : Int32), (0 : Nat), many, ws).1 = 0 → I2 87 15 = ((0 : Int32), (0 : Nat), many, ws).1 ∧ I2 87 16 = nI ((0 : Int32), (0 : Nat), many, ws).2.1) := ⟨I1, nI many, rfl, r1, fun _ => ⟨z15, z16, hm5, rfl, fun k hk => by rw [e2 _ _ (by omega)]; exact h11 k hk⟩, fun z => absurd rfl z⟩
    unfold gom
    by_cases e : t ≤ q
    · rw [if_pos (show (if q < t then nI (tx q) else -1) < 0 by rw [if_neg (by omega)]; decide), if_pos (Or.inl e)]
      exact stop
    · rw [if_neg (show ¬ (if q < t then nI (tx q) else -1) < 0 by rw [if_pos (by omega)]; exact nI_pos (by have := (h0.2.2 q (by omega)).2; omega))]
      try dsimp only
      by_cases f : 60 ≤ q
      · rw [if_pos (show (60 : Int32) ≤ I1 87 14 by rw [e3]; exact nI_le (a := 60) f (by omega)), if_pos (Or.inr f)]
        exact stop
      · rw [if_neg (show ¬ (60 : Int32) ≤ I1 87 14 by rw [e3]; exact nI_ge (b := 60) (by omega) (by omega)), if_neg (by omega)]
        obtain ⟨I2, t1, t2, t3, t4, t5⟩ := take_m hT1 e3 p2
        rw [hid] at t3 t4 t5
        obtain ⟨b1, b2, b3, -⟩ := stp_b' (P := is_le tx) p2
        have hT2 : TM tx t I2 := hT1.fr fun x k z => t2 x k (by omega)
        have y15 : I2 87 15 = 0 := by rw [t2 _ _ (by omega)]; exact z15
        have y16 : I2 87 16 = -1 := by rw [t2 _ _ (by omega)]; exact z16
        have r2 : QM I0 I2 := fun x k q1 q2 => by rw [t2 x k (by omega)]; exact r1 x k q1 q2
        have w2 : ∀ k, k < many → I2 101 k = ws k := fun k hk => by rw [t2 _ _ (by omega), e2 _ _ (by omega)]; exact h11 k hk
        rw [hT1.1, t1, Option.bind_some, ow_m hT2 t3 t5 b1 b2 b3, Option.bind_some]
        have bad : ∀ (fk : Int32) (I3 : gI) (z : Nat), ¬ fk = 0 → I3 = g_u (g_u I2 87 15 fk) 87 16 (nI z) → ∃ I4 x2, f_X10_order_19 fu told (nI many) I3 = f_X10_order_124 x2 I4 ∧ QM I0 I4 ∧ ((fk, z, many, ws).1 = 0 → I4 87 15 = 0 ∧ I4 87 16 = -1 ∧ (fk, z, many, ws).2.2.1 ≤ 5 ∧ x2 = nI (fk, z, many, ws).2.2.1 ∧ ∀ k, k < (fk, z, many, ws).2.2.1 → I4 101 k = (fk, z, many, ws).2.2.2 k) ∧ (¬ (fk, z, many, ws).1 = 0 → I4 87 15 = (fk, z, many, ws).1 ∧ I4 87 16 = nI (fk, z, many, ws).2.1) := by
          intro fk I3 z hfk eI3
          obtain ⟨fu, rfl⟩ : ∃ f, fu = f + 1 := ⟨fu - 1, by omega⟩
          have q15 : I3 87 15 = fk := by rw [eI3, u_nk (by omega), u_eq rfl rfl]
          rw [f_X10_order_19, if_neg (by rw [q15]; exact hfk)]
          exact ⟨I3, nI many, rfl, fun x k q1 q2 => by rw [eI3, u_ap, if_neg (by omega), u_ap, if_neg (by omega)]; exact r2 x k q1 q2, fun z => absurd z hfk, fun _ => ⟨q15, by rw [eI3, u_eq rfl rfl]⟩⟩
        rcases ow_v tx q (stp (is_le tx) t q) with o | ⟨c, hc, o⟩
        · rw [wr_1 o, o, if_pos (show (-1 : Int32) < 0 by decide), if_neg (show ¬ (1 : Int32) = 0 by decide)]
          unfold f_X10_order_69 f_X10_order_121
          rw [want_f y15 (by decide), if_pos rfl, t3]
          exact bad 1 _ q (by decide) rfl
        · rw [wr_2 hc o, o, if_neg (nI_pos (by omega))]
          unfold f_X10_order_69
          rw [want_t y15, if_neg (show ¬ true = false by decide)]
          try dsimp only
          unfold f_X10_order_94 f_X10_order_121
          by_cases o2 : tb told c = true
          · have eb : (if ((told >>> (nI c &&& 31)) &&& 1) = 0 then true else false) = false := if_neg (fun z => by
              rw [(tb_t0 _ (by omega)).mp z] at o2
              cases o2)
            rw [if_pos o2, eb, want_f y15 (by decide), if_pos rfl, t3, if_neg (show ¬ (3 : Int32) = 0 by decide)]
            exact bad 3 _ q (by decide) rfl
          · have o2' : tb told c = false := by simpa using o2
            rw [if_neg o2, if_pos ((tb_t0 _ (by omega)).mpr o2'), want_t y15, if_neg (show ¬ true = false by decide), if_pos rfl, gin_nI (show many < 8 by omega) (by omega), if_pos rfl, nI_clamp (by omega), sh31 c (by omega), nI_1]
            have := ih (many + 1) (stp (is_le tx) t q) fu (told ||| 1 <<< nI c) (up8 ws many (nI c)) (g_u I2 101 many (nI c)) (by omega) (by omega) (fun x k q1 q2 => by rw [u_na q2]; exact r2 x k q1 q2) (by rw [u_na (by omega)]; exact t4) b2 (by rw [u_na (by omega)]; exact y15) (by rw [u_na (by omega)]; exact y16) (fun k hk => by
              unfold up8
              by_cases z : k = many
              · rw [if_pos z, u_eq rfl z]
              · rw [if_neg z, u_nk z]
                exact w2 k (by omega)) (lowN_or h12 hc (by omega)) (by rw [bc_up (h12.low (by omega)) (by omega) o2', h13, nI_1])
            exact this
theorem fin_o (I : gI) {w : Nat} (hw : w ≤ 5) : ∃ I', f_X10_order_198 g_fuel (nI w) 0 I = some (nI w, I') ∧ (∀ a k, ¬ (a = 114 ∧ k < w) → ¬ (a = 87 ∧ k = 43) → I' a k = I a k) ∧ I' 87 43 = nI w ∧ ∀ k, k < w → I' 114 k = I 101 k := by
  refine lpg (P := fun fu k => ∀ I1, (∀ a j, ¬ (a = 114 ∧ j < w) → I1 a j = I a j) → (∀ j, j < k → I1 114 j = I 101 j) → ∃ I', f_X10_order_198 fu (nI w) (nI k) I1 = some (nI w, I') ∧ (∀ a k, ¬ (a = 114 ∧ k < w) → ¬ (a = 87 ∧ k = 43) → I' a k = I a k) ∧ I' 87 43 = nI w ∧ ∀ k, k < w → I' 114 k = I 101 k) (n := w) (by omega) (fun fu I1 a1 a2 => ?_) (fun fu k hk ih I1 a1 a2 => ?_) 0 (by omega) I (fun _ _ _ => rfl) (fun j hj => absurd hj (by omega))
  · rw [f_X10_order_198, if_pos (nI_le (Nat.le_refl _) (by omega))]
    exact ⟨_, rfl, fun a k q1 q2 => by rw [u_ap, if_neg q2]; exact a1 a k q1, u_eq rfl rfl, fun k hk => by rw [u_na (by omega)]; exact a2 k hk⟩
  · rw [f_X10_order_198, if_neg (nI_ge hk (by omega)), gin_nI (show k < 8 by omega) (by omega), gin_nI (show k < 5 by omega) (by omega), if_pos rfl, if_pos rfl, nI_clamp (by omega), nI_1]
    refine ih _ (fun a j q => by rw [u_ap, if_neg (by omega)]; exact a1 a j q) (fun j hj => ?_)
    by_cases e : j = k
    · rw [e, u_eq rfl rfl]
      exact a1 101 k (by omega)
    · rw [u_nk e]
      exact a2 j (by omega)
end ORD
