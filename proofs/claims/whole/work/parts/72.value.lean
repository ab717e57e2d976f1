/-! a clause's value, of both -/
def Nn (f : Nat → Nat) : Nat → Nat
  | 0 => 0
  | k + 1 => 10 * Nn f k + f k - 48
theorem Nn_s (f : Nat → Nat) (k : Nat) : Nn f (k + 1) = 10 * Nn f k + f k - 48 := rfl
def okN (tx : Nat → Nat) (c p q : Nat) : Bool := decide (q - p ≤ 2) && f_X9_within (nI (Nn (fun k => tx (p + k)) (q - p))) (g_sf 1 c) (g_sf 2 c)
def chW (tx : Nat → Nat) (c p q : Nat) : Int32 := if c = 5 then ca_w tx p q else ye_w tx p q
/-- what is wrong (0: nothing), where, or how far it goes, the value -/
def rv (tx : Nat → Nat) (t p c : Nat) : Int32 × Nat × Int32 :=
  if c < 5 then (if stp (is_fi tx) t p = p then (1, p, 0) else if okN tx c p (stp (is_fi tx) t p) = true then (0, stp (is_fi tx) t p, nI (Nn (fun k => tx (p + k)) (stp (is_fi tx) t p - p))) else (2, p, 0))
  else (if chW tx c p (stp (is_le tx) t p) = -1 then (1, p, 0) else (0, stp (is_le tx) t p, chW tx c p (stp (is_le tx) t p)))
section VAL
variable {tx : Nat → Nat} {t : Nat} {I : gI}
theorem rv_le {p c : Nat} (hp : p ≤ t) : p ≤ (rv tx t p c).2.1 ∧ (rv tx t p c).2.1 ≤ t := by
  obtain ⟨a1, a2, -⟩ := stp_b' (P := is_fi tx) hp
  obtain ⟨b1, b2, -⟩ := stp_b' (P := is_le tx) hp
  unfold rv
  split
  · split
    · exact ⟨Nat.le_refl _, hp⟩
    · split
      · exact ⟨a1, a2⟩
      · exact ⟨Nat.le_refl _, hp⟩
  · split
    · exact ⟨Nat.le_refl _, hp⟩
    · exact ⟨b1, b2⟩
def VC (I I2 : gI) (r : Int32 × Nat × Int32) (c : Nat) : Prop := (∀ a k, ¬ (a = 39 ∧ 2 ≤ k ∧ k ≤ 4) → ¬ (a = 55 ∧ k = c) → I2 a k = I a k) ∧ (r.1 = 0 → I2 39 2 = nI r.2.1 ∧ I2 39 3 = I 39 3 ∧ I2 39 4 = I 39 4 ∧ I2 55 c = r.2.2) ∧ (¬ r.1 = 0 → I2 39 3 = r.1 ∧ I2 39 4 = nI r.2.1 ∧ I2 39 2 = I 39 2)
theorem VC.ref {k : Int32} {p c : Nat} {x : Int32} (hp : I 39 2 = nI p) (hk : ¬ k = 0) : VC I (f_X8_refuse k (I 39 2) I) (k, p, x) c := by
  unfold f_X8_refuse
  refine ⟨fun a j q1 q2 => by rw [u_ap, if_neg (by omega), u_ap, if_neg (by omega)], fun q => absurd q hk, fun _ => ⟨by rw [u_nk (by omega), u_eq rfl rfl], by rw [u_eq rfl rfl, hp], by rw [u_nk (by omega), u_nk (by omega)]⟩⟩
theorem VC.ok {q c : Nat} {x : Int32} : VC I (g_u (g_u I 55 c x) 39 2 (nI q)) (0, q, x) c := by
  refine ⟨fun a j q1 q2 => by rw [u_ap, if_neg (by omega), u_ap, if_neg (by omega)], fun _ => ⟨u_eq rfl rfl, by rw [u_nk (by omega), u_na (by omega)], by rw [u_nk (by omega), u_na (by omega)], by rw [u_na (by omega), u_eq rfl rfl]⟩, fun q => absurd rfl q⟩
theorem num_c {p q : Nat} (h : TC tx t I) (hp : I 39 2 = nI p) (hpq : p ≤ q) (hq : q ≤ t) (hf : ∀ k, p ≤ k → k < q → is_fi tx k = true) : f_X6_numberUpTo (nI q) I = some (nI (Nn (fun k => tx (p + k)) (q - p))) := by
  have ht := h.2.1
  unfold f_X6_numberUpTo
  rw [hp]
  have key := lpg (P := fun fu k => f_X6_numberUpTo_7 fu (nI q) (nI (Nn (fun k => tx (p + k)) k)) (nI (p + k)) I = some (nI (Nn (fun k => tx (p + k)) (q - p)))) (n := q - p) (by omega) (fun fu => ?_) (fun fu k hk ih => ?_) 0 (by omega)
  · exact key
  · rw [f_X6_numberUpTo_7, if_pos (nI_le (by omega) (by omega))]
  · have := of_decide_eq_true (hf (p + k) (by omega) (by omega))
    rw [f_X6_numberUpTo_7, if_neg (nI_ge (by omega) (by omega)), byte_c h (by omega), if_pos (by omega), Option.bind_some, show (10 : Int32) = nI 10 from rfl, nI_mul, nI_add, show (48 : Int32) = nI 48 from rfl, nI_sub (by omega), nI_1]
    exact ih
theorem vl_c {p c : Nat} (hc : c < 8) (h : TC tx t I) (hp : I 39 2 = nI p) (hpt : p ≤ t) : ∃ I2, (if 5 ≤ nI c then f_X6_readChoice (nI c) I else f_X6_readNumber (nI c) I) = some I2 ∧ VC I I2 (rv tx t p c) c := by
  have ht := h.2.1
  by_cases c5 : c < 5
  · obtain ⟨a1, a2, a3, -⟩ := stp_b' (P := is_fi tx) hpt
    rw [if_neg (show ¬ (5 : Int32) ≤ nI c from nI_ge (b := 5) c5 (by omega))]
    unfold f_X6_readNumber f_X6_readNumber_42 rv okN
    rw [if_pos c5, fig_c h hp hpt, Option.bind_some, hp, nI_sub a1, gin_nI c5 (by omega), gin_nI hc (by omega), nI_clamp (by omega), num_c h hp a1 a2 a3]
    simp only [if_true, Option.bind_some]
    generalize stp (is_fi tx) t p = q at *
    by_cases e : q = p
    · rw [if_pos (by rw [e]), if_pos e, ← hp]
      exact ⟨_, rfl, VC.ref hp (by decide)⟩
    · rw [if_neg (fun z => e ((nI_eq (by omega) (by omega)).mp z)), if_neg e]
      by_cases e2 : q - p ≤ 2
      · rw [if_pos (show nI (q - p) ≤ 2 from nI_le (b := 2) e2 (by omega)), decide_eq_true e2, Bool.true_and]
        by_cases e3 : f_X9_within (nI (Nn (fun k => tx (p + k)) (q - p))) (g_sf 1 c) (g_sf 2 c) = true
        · rw [if_pos e3, if_pos e3]
          exact ⟨_, rfl, VC.ok⟩
        · rw [if_neg e3, if_neg e3, ← hp]
          exact ⟨_, rfl, VC.ref hp (by decide)⟩
      · have hw : ∀ c, c < 5 → f_X9_within (-1) (g_sf 1 c) (g_sf 2 c) = false := by decide +kernel
        rw [if_neg (show ¬ nI (q - p) ≤ 2 from nI_ge (a := 2) (by omega) (by omega)), decide_eq_false e2, Bool.false_and, hw c c5, if_neg (by decide), if_neg (by decide), ← hp]
        exact ⟨_, rfl, VC.ref hp (by decide)⟩
  · obtain ⟨a1, a2, a3, -⟩ := stp_b' (P := is_le tx) hpt
    rw [if_pos (show (5 : Int32) ≤ nI c from nI_le (a := 5) (by omega) (by omega))]
    unfold f_X6_readChoice f_X6_readChoice_23 rv chW
    rw [if_neg c5, word_c h hp hpt, Option.bind_some, ca_c h hp a1 a2, ye_c h hp a1 a2, gin_nI hc (by omega), nI_clamp (by omega)]
    simp only [if_true, Option.bind_some]
    have go : ∀ x : Int32, ∃ I2, (if x = -1 then some (f_X8_refuse 1 (I 39 2) I) else some (g_u (g_u I (54 + 1) c x) 39 2 (nI (stp (is_le tx) t p)))) = some I2 ∧ VC I I2 (if x = -1 then (1, p, 0) else (0, stp (is_le tx) t p, x)) c := by
      intro x
      by_cases e : x = -1
      · rw [if_pos e, if_pos e]
        exact ⟨_, rfl, VC.ref hp (by decide)⟩
      · rw [if_neg e, if_neg e]
        exact ⟨_, rfl, VC.ok⟩
    by_cases e : c = 5
    · rw [if_pos (show nI c = 5 by rw [e]; rfl), if_pos e]
      exact go _
    · rw [if_neg (show ¬ nI c = 5 from fun z => e ((nI_eq (b := 5) (by omega) (by omega)).mp z)), if_neg e]
      exact go _
/-! the model's -/
theorem want_t {x2 x3 : Int32} (h : I 87 15 = 0) : f_X10_want (g_b true) x2 x3 I = (true, I) := by
  unfold f_X10_want f_X10_want_21
  rw [if_neg (by decide), if_pos h]
theorem want_f {x2 x3 : Int32} (h : I 87 15 = 0) (hx : ¬ x2 = 0) : f_X10_want (g_b false) x2 x3 I = (false, g_u (g_u I 87 15 x2) 87 16 x3) := by
  unfold f_X10_want f_X10_want_21
  rw [if_pos (by decide), if_pos h, u_nk (by omega), u_eq rfl rfl, if_neg hx]
def VM (t : Nat) (I I2 : gI) (r : Int32 × Nat × Int32) (c : Nat) : Prop := (∀ a k, ¬ (a = 87 ∧ 14 ≤ k ∧ k ≤ 18) → ¬ (a = 101 ∧ k = c) → I2 a k = I a k) ∧ (∃ z, z ≤ t ∧ I2 87 14 = nI z) ∧ (r.1 = 0 → I2 87 14 = nI r.2.1 ∧ I2 87 15 = 0 ∧ I2 87 16 = I 87 16 ∧ I2 101 c = r.2.2) ∧ (¬ r.1 = 0 → I2 87 15 = r.1 ∧ I2 87 16 = nI r.2.1)
theorem lim_m : ∀ c, c < 5 → f_X10_least (nI c) = g_sf 1 c ∧ f_X10_greatest (nI c) = g_sf 2 c := by decide +kernel
theorem mw_in (x a b : Int32) : f_X10_in (Int32.toInt64 x) (Int32.toInt64 a) (Int32.toInt64 b) = f_X9_within x a b := by
  rw [m_in, w_in, Int32.toInt_toInt64, Int32.toInt_toInt64, Int32.toInt_toInt64]
theorem dig_m {p : Nat} (x1 : Int32) : ∀ (d r fu : Nat) (x4 : Int32) (I : gI), t - r = d → r ≤ t → p ≤ r → d < fu → TM tx t I → I 87 14 = nI r → (∀ k, p ≤ k → k < r → is_fi tx k = true) → (r - p ≤ 2 → x4 = nI (Nn (fun k => tx (p + k)) (r - p))) → (r - p ≤ 2 → Nn (fun k => tx (p + k)) (r - p) ≤ 99) → ∃ x4' I2, f_X10_readValue_46 fu x1 (nI p) x4 I = f_X10_readValue_125 x1 (nI p) x4' I2 ∧ (∀ a k, ¬ (a = 87 ∧ k = 14) → I2 a k = I a k) ∧ I2 87 14 = nI (stp (is_fi tx) t r) ∧ (stp (is_fi tx) t r - p ≤ 2 → x4' = nI (Nn (fun k => tx (p + k)) (stp (is_fi tx) t r - p))) := by
  intro d
  induction d with
  | zero =>
    intro r fu x4 I h1 h2 h3 h4 h5 h6 h7 h8 h9
    obtain ⟨fu, rfl⟩ : ∃ f, fu = f + 1 := ⟨fu - 1, by omega⟩
    have ht := h5.2.1
    rw [f_X10_readValue_46, h5.1, h6, if_pos (nI_le (by omega) (by omega)), stp_ge (by omega)]
    exact ⟨x4, I, rfl, fun _ _ _ => rfl, h6, h8⟩
  | succ d ih =>
    intro r fu x4 I h1 h2 h3 h4 h5 h6 h7 h8 h9
    obtain ⟨fu, rfl⟩ : ∃ f, fu = f + 1 := ⟨fu - 1, by omega⟩
    have ht := h5.2.1
    obtain ⟨b1, b2⟩ := h5.2.2 r (by omega)
    rw [f_X10_readValue_46, h5.1, h6, if_neg (nI_ge (by omega) (by omega)), gin_nI (by omega) (by omega), if_pos rfl, nI_clamp (by omega), b1, m_byte (a := 48) (b := 57) (by decide) (by decide) b2]
    by_cases c : 48 ≤ tx r ∧ tx r ≤ 57
    · have eb : stp (is_fi tx) t r = stp (is_fi tx) t (r + 1) := by rw [stp_s (by omega), if_pos (show is_fi tx r = true from decide_eq_true c)]
      rw [decide_eq_true c, if_neg (by decide), eb]
      unfold f_X10_readValue_110
      rw [h6, nI_1, if_pos rfl]
      have e1 : (r + 1) - p = (r - p) + 1 := by omega
      have step : ∀ x : Int32, (r + 1 - p ≤ 2 → x = nI (Nn (fun k => tx (p + k)) (r + 1 - p))) → ∃ x4' I2, f_X10_readValue_46 fu x1 (nI p) x (g_u I 87 14 (nI (r + 1))) = f_X10_readValue_125 x1 (nI p) x4' I2 ∧ (∀ a k, ¬ (a = 87 ∧ k = 14) → I2 a k = I a k) ∧ I2 87 14 = nI (stp (is_fi tx) t (r + 1)) ∧ (stp (is_fi tx) t (r + 1) - p ≤ 2 → x4' = nI (Nn (fun k => tx (p + k)) (stp (is_fi tx) t (r + 1) - p))) := by
        intro x hx
        obtain ⟨x4', I2, i1, i2, i3, i4⟩ := ih (r + 1) fu x (g_u I 87 14 (nI (r + 1))) (by omega) (by omega) (by omega) (by omega) (h5.fr fun a k q => by rw [u_ap, if_neg (by omega)]) (u_eq rfl rfl) (fun k hk1 hk2 => by
          by_cases e : k = r
          · rw [e]
            exact decide_eq_true c
          · exact h7 k hk1 (by omega)) hx (fun hle => by
          rw [e1, Nn_s, show p + (r - p) = r by omega]
          by_cases z : r - p = 0
          · rw [z]
            show 10 * 0 + tx r - 48 ≤ 99
            omega
          · have z1 : r - p = 1 := by omega
            rw [z1]
            show 10 * (10 * 0 + tx (p + 0) - 48) + tx r - 48 ≤ 99
            have := of_decide_eq_true (h7 p (by omega) (by omega))
            rw [show p + 0 = p by omega]
            omega)
        exact ⟨x4', I2, i1, fun a k q => by rw [i2 a k q, u_ap, if_neg q], i3, i4⟩
      by_cases c2 : x4 ≤ 999
      · rw [if_pos c2]
        refine step _ (fun hle => ?_)
        rw [h8 (by omega), e1, Nn_s, show p + (r - p) = r by omega, show (10 : Int32) = nI 10 from rfl, nI_mul, nI_add, show (48 : Int32) = nI 48 from rfl, nI_sub (by omega)]
      · rw [if_neg c2]
        refine step _ (fun hle => ?_)
        exfalso
        apply c2
        rw [h8 (by omega)]
        have := h9 (by omega)
        exact nI_le (b := 999) (by omega) (by omega)
    · have eb : stp (is_fi tx) t r = r := by rw [stp_s (by omega), if_neg (by unfold is_fi; rw [decide_eq_false c]; decide)]
      rw [decide_eq_false c, if_pos rfl, eb]
      exact ⟨x4, I, rfl, fun _ _ _ => rfl, h6, h8⟩
theorem vl_m {b c : Nat} (hc : c < 8) (h : TM tx t I) (hb : I 87 14 = nI b) (hbt : b ≤ t) (h15 : I 87 15 = 0) : ∃ I2, f_X10_readValue (nI c) I = some I2 ∧ VM t I I2 (rv tx t (stp (is_bl tx) t b) c) c := by
  have ht := h.2.1
  have n1z : ¬ (1 : Int32) = 0 := by decide
  have n2z : ¬ (2 : Int32) = 0 := by decide
  obtain ⟨s1, s2, -, -⟩ := stp_b' (P := is_bl tx) hbt
  by_cases c5 : c < 5
  · obtain ⟨I1, a1, a2, a3⟩ := here_m h hb hbt
    obtain ⟨W, eW⟩ : ∃ W, W = f_X10_want (g_b (f_X10_in (Int32.toInt64 (if stp (is_bl tx) t b < t then nI (tx (stp (is_bl tx) t b)) else -1)) (48 : Int64) (57 : Int64))) 1 (I1 87 14) I1 := ⟨_, rfl⟩
    have e0 : f_X10_readValue (nI c) I = (if W.1 = true then f_X10_readValue_46 g_fuel (nI c) (W.2 87 14) 0 W.2 else some W.2) := by
      unfold f_X10_readValue
      rw [if_neg (show ¬ (5 : Int32) ≤ nI c from nI_ge (b := 5) c5 (by omega)), h.1, a1, eW]
      rfl
    rw [e0]
    clear e0
    generalize stp (is_bl tx) t b = p at *
    have h1 : TM tx t I1 := h.fr fun a k q => a2 a k (by omega)
    have e15 : I1 87 15 = 0 := by rw [a2 _ _ (by omega)]; exact h15
    have hin : f_X10_in (Int32.toInt64 (if p < t then nI (tx p) else -1)) (48 : Int64) (57 : Int64) = (decide (p < t) && is_fi tx p) := by
      by_cases q : p < t
      · rw [if_pos q, decide_eq_true q, m_byte (a := 48) (b := 57) (by decide) (by decide) (h.2.2 p q).2]
        rfl
      · rw [if_neg q, decide_eq_false q]
        rfl
    rw [hin, a3] at eW
    obtain ⟨f1, f2, f3, f4⟩ := stp_b' (P := is_fi tx) s2
    unfold rv
    rw [if_pos c5]
    by_cases e : (decide (p < t) && is_fi tx p) = true
    · rw [e, want_t e15] at eW
      rw [eW, if_pos rfl]
      try dsimp only
      rw [a3]
      rw [Bool.and_eq_true, decide_eq_true_iff] at e
      have hne : ¬ stp (is_fi tx) t p = p := by
        rw [stp_s e.1, if_pos e.2]
        have := (stp_b' (P := is_fi tx) (t := t) (p := p + 1) (by omega)).1
        omega
      obtain ⟨x4, I2, d1, d2, d3, d4⟩ := dig_m (tx := tx) (t := t) (p := p) (nI c) (t - p) p g_fuel 0 I1 rfl s2 (Nat.le_refl _) (by unfold g_fuel; omega) h1 a3 (fun k _ _ => by omega) (fun _ => by rw [Nat.sub_self]; rfl) (fun _ => by rw [Nat.sub_self]; exact Nat.zero_le _)
      rw [d1, if_neg hne]
      have g15 : I2 87 15 = 0 := by rw [d2 _ _ (by omega)]; exact e15
      have g16 : I2 87 16 = I 87 16 := by rw [d2 _ _ (by omega), a2 _ _ (by omega)]
      have gf : ∀ a k, ¬ (a = 87 ∧ 14 ≤ k ∧ k ≤ 18) → I2 a k = I a k := fun a k z => by rw [d2 a k (by omega), a2 a k (by omega)]
      unfold f_X10_readValue_125 f_X10_readValue_159 f_X10_readValue_160 okN
      rw [d3, nI_sub f1, gin_nI hc (by omega), nI_clamp (by omega), (lim_m c c5).1, (lim_m c c5).2, mw_in, want_t g15, want_f g15 (by decide)]
      simp only [if_true]
      have bad : ∃ I3, some (g_u (g_u (g_u I2 87 15 2) 87 16 (nI p)) 101 c x4) = some I3 ∧ VM t I I3 (2, p, 0) c := by
        refine ⟨_, rfl, fun a k z1 z2 => ?_, ⟨stp (is_fi tx) t p, f2, ?_⟩, fun z => absurd z n2z, fun _ => ⟨?_, ?_⟩⟩
        · rw [u_ap, if_neg z2, u_ap, if_neg (by omega), u_ap, if_neg (by omega)]
          exact gf a k z1
        · rw [u_na (by omega), u_nk (by omega), u_nk (by omega)]
          exact d3
        · rw [u_na (by omega), u_nk (by omega), u_eq rfl rfl]
        · rw [u_na (by omega), u_eq rfl rfl]
      by_cases k3 : stp (is_fi tx) t p - p ≤ 2
      · rw [if_neg (show ¬ (3 : Int32) ≤ nI (stp (is_fi tx) t p - p) from nI_ge (b := 3) (by omega) (by omega)), decide_eq_true k3, Bool.true_and, d4 k3]
        rw [d4 k3] at bad
        by_cases k4 : f_X9_within (nI (Nn (fun k => tx (p + k)) (stp (is_fi tx) t p - p))) (g_sf 1 c) (g_sf 2 c) = true
        · rw [if_neg (by rw [k4]; decide), if_pos k4]
          refine ⟨_, rfl, fun a k z1 z2 => ?_, ⟨stp (is_fi tx) t p, f2, ?_⟩, fun _ => ⟨?_, ?_, ?_, ?_⟩, fun z => absurd rfl z⟩
          · rw [u_ap, if_neg z2]
            exact gf a k z1
          · rw [u_na (by omega)]
            exact d3
          · rw [u_na (by omega)]
            exact d3
          · rw [u_na (by omega)]
            exact g15
          · rw [u_na (by omega)]
            exact g16
          · rw [u_eq rfl rfl]
        · rw [if_pos (by simpa using k4), if_neg k4]
          exact bad
      · rw [if_pos (show (3 : Int32) ≤ nI (stp (is_fi tx) t p - p) from nI_le (a := 3) (by omega) (by omega)), decide_eq_false k3, Bool.false_and, if_neg (by decide)]
        exact bad
    · have e' : (decide (p < t) && is_fi tx p) = false := by simpa using e
      have heq : stp (is_fi tx) t p = p := by
        by_cases q : p < t
        · rw [stp_s q, if_neg (fun z => e (by rw [decide_eq_true q, z]; rfl))]
        · exact stp_ge (by omega)
      rw [e', want_f e15 (by decide)] at eW
      rw [eW, if_neg (show ¬ false = true by decide), if_pos heq]
      refine ⟨_, rfl, fun a k z1 z2 => ?_, ⟨p, s2, ?_⟩, fun z => absurd z n1z, fun _ => ⟨?_, ?_⟩⟩
      · try dsimp only
        rw [u_ap, if_neg (by omega), u_ap, if_neg (by omega), a2 a k (by omega)]
      · try dsimp only
        rw [u_nk (by omega), u_nk (by omega)]
        exact a3
      · try dsimp only
        rw [u_nk (by omega), u_eq rfl rfl]
      · try dsimp only
        rw [u_eq rfl rfl]
  · unfold f_X10_readValue
    rw [if_pos (show (5 : Int32) ≤ nI c from nI_le (a := 5) (by omega) (by omega)), h.1]
    obtain ⟨I1, a1, a2, a3, a4, a5⟩ := take_m h hb hbt
    generalize stp (is_bl tx) t b = p at *
    obtain ⟨f1, f2, f3, f4⟩ := stp_b' (P := is_le tx) s2
    have h1 : TM tx t I1 := h.fr fun a k q => a2 a k (by omega)
    have e15 : I1 87 15 = 0 := by rw [a2 _ _ (by omega)]; exact h15
    have ev : f_X10_valueOf (nI c) I1 = some (chW tx c p (stp (is_le tx) t p)) := by
      unfold chW
      by_cases q : c = 5
      · rw [if_pos q, q]
        exact ca_m h1 a3 a5 f1 f2 f3
      · rw [if_neg q]
        exact ye_m (fun z => q ((nI_eq (b := 5) (by omega) (by omega)).mp z)) h1 a3 a5 f1 f2 f3
    have hch : ∀ p q : Nat, chW tx c p q = -1 ∨ chW tx c p q = 0 ∨ chW tx c p q = 1 ∨ chW tx c p q = 2 := by
      intro p q
      unfold chW ca_w ye_w
      split
      · split
        · simp
        · split
          · simp
          · split <;> simp
      · split
        · simp
        · split <;> simp
    rw [a1, Option.bind_some, ev, Option.bind_some]
    unfold f_X10_readValue_202 rv
    rw [if_neg c5, gin_nI hc (by omega), if_pos rfl, nI_clamp (by omega), a3]
    have hneg : (if chW tx c p (stp (is_le tx) t p) < 0 then false else true) = decide (¬ chW tx c p (stp (is_le tx) t p) = -1) := by
      rcases hch p (stp (is_le tx) t p) with z | z | z | z <;> rw [z] <;> decide
    rw [hneg]
    by_cases e : chW tx c p (stp (is_le tx) t p) = -1
    · rw [decide_eq_false (fun z => z e), want_f e15 (by decide), if_pos e]
      refine ⟨_, rfl, fun a k z1 z2 => ?_, ⟨stp (is_le tx) t p, f2, ?_⟩, fun z => absurd z n1z, fun _ => ⟨?_, ?_⟩⟩
      · try dsimp only
        rw [u_ap, if_neg z2, u_ap, if_neg (by omega), u_ap, if_neg (by omega), a2 a k (by omega)]
      · try dsimp only
        rw [u_na (by omega), u_nk (by omega), u_nk (by omega)]
        exact a4
      · try dsimp only
        rw [u_na (by omega), u_nk (by omega), u_eq rfl rfl]
      · try dsimp only
        rw [u_na (by omega), u_eq rfl rfl]
    · rw [decide_eq_true e, want_t e15, if_neg e]
      refine ⟨_, rfl, fun a k z1 z2 => ?_, ⟨stp (is_le tx) t p, f2, ?_⟩, fun _ => ⟨?_, ?_, ?_, ?_⟩, fun z => absurd rfl z⟩
      · try dsimp only
        rw [u_ap, if_neg z2, a2 a k (by omega)]
      · try dsimp only
        rw [u_na (by omega)]
        exact a4
      · try dsimp only
        rw [u_na (by omega)]
        exact a4
      · try dsimp only
        rw [u_na (by omega)]
        exact e15
      · try dsimp only
        rw [u_na (by omega), a2 _ _ (by omega)]
      · try dsimp only
        rw [u_eq rfl rfl]
end VAL
