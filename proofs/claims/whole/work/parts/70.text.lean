/-! texts: blanks, words, figures, of both -/
def kw (w k : Nat) : Nat := ((g_kb w).getD k 0).toNatClampNeg
def kl (w : Nat) : Nat := (g_kb w).length
theorem kl_b : ∀ w, w < 18 → 1 ≤ kl w ∧ kl w < 8 := by decide +kernel
theorem kw_b : ∀ w, w < 18 → ∀ k, k < kl w → 97 ≤ kw w k ∧ kw w k ≤ 122 ∧ (g_kb w).getD k 0 = nI (kw w k) := by decide +kernel
def rn (P : Nat → Bool) : Nat → Nat → Nat
  | 0, p => p
  | d + 1, p => if P p = true then rn P d (p + 1) else p
def stp (P : Nat → Bool) (t p : Nat) : Nat := rn P (t - p) p
section RUN
variable {P : Nat → Bool} {t : Nat}
theorem stp_ge {p : Nat} (h : t ≤ p) : stp P t p = p := by
  unfold stp
  rw [show t - p = 0 by omega]
  rfl
theorem stp_s {p : Nat} (h : p < t) : stp P t p = if P p = true then stp P t (p + 1) else p := by
  unfold stp
  rw [show t - p = (t - (p + 1)) + 1 by omega]
  rfl
theorem stp_b : ∀ (d p : Nat), t - p = d → p ≤ t → p ≤ stp P t p ∧ stp P t p ≤ t ∧ (∀ k, p ≤ k → k < stp P t p → P k = true) ∧ (stp P t p < t → P (stp P t p) = false) := by
  intro d
  induction d with
  | zero =>
    intro p h1 h2
    rw [stp_ge (by omega)]
    exact ⟨by omega, by omega, fun k _ _ => by omega, fun _ => by omega⟩
  | succ d ih =>
    intro p h1 h2
    rw [stp_s (by omega)]
    by_cases c : P p = true
    · rw [if_pos c]
      obtain ⟨i1, i2, i3, i4⟩ := ih (p + 1) (by omega) (by omega)
      refine ⟨by omega, i2, fun k hk1 hk2 => ?_, i4⟩
      by_cases e : k = p
      · rw [e]
        exact c
      · exact i3 k (by omega) hk2
    · rw [if_neg c]
      exact ⟨by omega, by omega, fun k _ _ => by omega, fun _ => by simpa using c⟩
theorem stp_b' {p : Nat} (h : p ≤ t) : p ≤ stp P t p ∧ stp P t p ≤ t ∧ (∀ k, p ≤ k → k < stp P t p → P k = true) ∧ (stp P t p < t → P (stp P t p) = false) := stp_b (t - p) p rfl h
theorem stp_id {p : Nat} (h : p ≤ t) : stp P t (stp P t p) = stp P t p := by
  obtain ⟨h1, h2, h3, h4⟩ := stp_b' (P := P) h
  by_cases e : stp P t p < t
  · rw [stp_s e, if_neg (by rw [h4 e]; decide)]
  · exact stp_ge (by omega)
end RUN
def is_bl (tx : Nat → Nat) (k : Nat) : Bool := decide (tx k = 32)
def is_le (tx : Nat → Nat) (k : Nat) : Bool := decide (97 ≤ tx k ∧ tx k ≤ 122)
def is_fi (tx : Nat → Nat) (k : Nat) : Bool := decide (48 ≤ tx k ∧ tx k ≤ 57)
def TC (tx : Nat → Nat) (t : Nat) (I : gI) : Prop := I 39 1 = nI t ∧ t ≤ 100 ∧ ∀ k, k < t → I 40 k = nI (tx k) ∧ tx k ≤ 255
def TM (tx : Nat → Nat) (t : Nat) (I : gI) : Prop := I 87 13 = nI t ∧ t ≤ 100 ∧ ∀ k, k < t → I 99 k = nI (tx k) ∧ tx k ≤ 255
theorem TC.fr {tx : Nat → Nat} {t : Nat} {I I' : gI} (h : TC tx t I) (f : ∀ a k, (a = 39 ∧ k = 1) ∨ a = 40 → I' a k = I a k) : TC tx t I' := ⟨by rw [f _ _ (by omega)]; exact h.1, h.2.1, fun k hk => by rw [f _ _ (by omega)]; exact h.2.2 k hk⟩
theorem TM.fr {tx : Nat → Nat} {t : Nat} {I I' : gI} (h : TM tx t I) (f : ∀ a k, (a = 87 ∧ k = 13) ∨ a = 99 → I' a k = I a k) : TM tx t I' := ⟨by rw [f _ _ (by omega)]; exact h.1, h.2.1, fun k hk => by rw [f _ _ (by omega)]; exact h.2.2 k hk⟩
theorem nI_sub {a b : Nat} (h : a ≤ b) : nI b - nI a = nI (b - a) := by
  have e : nI b = nI (b - a) + nI a := by rw [nI_add, show b - a + a = b by omega]
  rw [e, Int32.add_sub_cancel]
section TXT
variable {tx : Nat → Nat} {t : Nat} {I : gI}
theorem byte_c (h : TC tx t I) {k : Nat} (hk : k < 1000) : f_X8_byteAt (nI k) I = some (if k < t then nI (tx k) else -1) := by
  obtain ⟨h1, h2, h3⟩ := h
  have e0 : (0 : Int32).toInt = 0 := by decide
  unfold f_X8_byteAt
  rw [w_in, h1, nI_m1 (by omega), nI_toInt (by omega), e0]
  by_cases c : k < t
  · rw [decide_eq_true (by omega), if_neg (by decide), gin_nI (by omega) (by omega), if_pos rfl, if_pos c, nI_clamp (by omega), (h3 k c).1]
  · rw [decide_eq_false (by omega), if_pos rfl, if_neg c]
theorem w_byte {x a b : Nat} {lo hi : Int32} (ha : lo.toInt = a) (hb : hi.toInt = b) (hx : x ≤ 255) : f_X9_within (nI x) lo hi = decide (a ≤ x ∧ x ≤ b) := by
  rw [w_in, nI_toInt (by omega), ha, hb]
  rw [decide_eq_decide]
  omega
theorem m_byte {x a b : Nat} {lo hi : Int64} (ha : lo.toInt = a) (hb : hi.toInt = b) (hx : x ≤ 255) : f_X10_in (Int32.toInt64 (nI x)) lo hi = decide (a ≤ x ∧ x ≤ b) := by
  rw [m_in, Int32.toInt_toInt64, nI_toInt (by omega), ha, hb]
  rw [decide_eq_decide]
  omega
theorem skip_c0 : ∀ (d p fu : Nat) (I : gI), t - p = d → p ≤ t → d < fu → TC tx t I → I 39 2 = nI p → ∃ I2, f_X8_skipBlanks_0 fu I = some I2 ∧ (∀ a k, ¬ (a = 39 ∧ k = 2) → I2 a k = I a k) ∧ I2 39 2 = nI (stp (is_bl tx) t p) := by
  intro d
  induction d with
  | zero =>
    intro p fu I h1 h2 h3 h4 h5
    obtain ⟨fu, rfl⟩ : ∃ f, fu = f + 1 := ⟨fu - 1, by omega⟩
    have ht := h4.2.1
    refine ⟨I, ?_, fun _ _ _ => rfl, by rw [stp_ge (by omega)]; exact h5⟩
    rw [f_X8_skipBlanks_0, h4.1, h5, if_pos (nI_le (by omega) (by omega))]
  | succ d ih =>
    intro p fu I h1 h2 h3 h4 h5
    obtain ⟨fu, rfl⟩ : ∃ f, fu = f + 1 := ⟨fu - 1, by omega⟩
    have ht := h4.2.1
    rw [f_X8_skipBlanks_0, h4.1, h5, if_neg (nI_ge (by omega) (by omega)), byte_c h4 (by omega), if_pos (by omega), Option.bind_some, nI_1, stp_s (by omega)]
    unfold is_bl
    by_cases c : tx p = 32
    · rw [if_pos (show nI (tx p) = 32 by rw [c]; rfl), if_pos (decide_eq_true c)]
      obtain ⟨I2, i1, i2, i3⟩ := ih (p + 1) fu (g_u I 39 2 (nI (p + 1))) (by omega) (by omega) (by omega) (h4.fr fun a k q => by rw [u_ap, if_neg (by omega)]) (u_eq rfl rfl)
      exact ⟨I2, i1, fun a k q => by rw [i2 a k q, u_ap, if_neg q], i3⟩
    · rw [if_neg (show ¬ nI (tx p) = 32 from fun q => c ((nI_eq (b := 32) (by have := (h4.2.2 p (by omega)).2; omega) (by omega)).mp q)), if_neg (by rw [decide_eq_false c]; decide)]
      exact ⟨I, rfl, fun _ _ _ => rfl, h5⟩
theorem skip_c {p : Nat} (h : TC tx t I) (hp : I 39 2 = nI p) (hpt : p ≤ t) : ∃ I2, f_X8_skipBlanks I = some I2 ∧ (∀ a k, ¬ (a = 39 ∧ k = 2) → I2 a k = I a k) ∧ I2 39 2 = nI (stp (is_bl tx) t p) := skip_c0 (t - p) p g_fuel I rfl hpt (by have := h.2.1; unfold g_fuel; omega) h hp
theorem word_c0 (h : TC tx t I) : ∀ (d p fu : Nat), t - p = d → p ≤ t → d < fu → f_X8_wordStop_5 fu (nI p) I = some (nI (stp (is_le tx) t p)) := by
  have ht := h.2.1
  intro d
  induction d with
  | zero =>
    intro p fu h1 h2 h3
    obtain ⟨fu, rfl⟩ : ∃ f, fu = f + 1 := ⟨fu - 1, by omega⟩
    rw [f_X8_wordStop_5, h.1, if_pos (nI_le (by omega) (by omega)), stp_ge (by omega)]
  | succ d ih =>
    intro p fu h1 h2 h3
    obtain ⟨fu, rfl⟩ : ∃ f, fu = f + 1 := ⟨fu - 1, by omega⟩
    rw [f_X8_wordStop_5, h.1, if_neg (nI_ge (by omega) (by omega)), byte_c h (by omega), if_pos (by omega), Option.bind_some, nI_1, stp_s (by omega), w_byte (a := 97) (b := 122) (by decide) (by decide) (h.2.2 p (by omega)).2, ih (p + 1) fu (by omega) (by omega) (by omega)]
    unfold is_le
    by_cases c : 97 ≤ tx p ∧ tx p ≤ 122
    · rw [decide_eq_true c, if_neg (by decide), if_pos rfl]
    · rw [decide_eq_false c, if_pos rfl, if_neg (by decide)]
theorem word_c {p : Nat} (h : TC tx t I) (hp : I 39 2 = nI p) (hpt : p ≤ t) : f_X8_wordStop I = some (nI (stp (is_le tx) t p)) := by
  unfold f_X8_wordStop
  rw [hp]
  exact word_c0 h (t - p) p g_fuel rfl hpt (by have := h.2.1; unfold g_fuel; omega)
theorem fig_c0 (h : TC tx t I) : ∀ (d p fu : Nat), t - p = d → p ≤ t → d < fu → f_X8_figuresStop_5 fu (nI p) I = some (nI (stp (is_fi tx) t p)) := by
  have ht := h.2.1
  intro d
  induction d with
  | zero =>
    intro p fu h1 h2 h3
    obtain ⟨fu, rfl⟩ : ∃ f, fu = f + 1 := ⟨fu - 1, by omega⟩
    rw [f_X8_figuresStop_5, h.1, if_pos (nI_le (by omega) (by omega)), stp_ge (by omega)]
  | succ d ih =>
    intro p fu h1 h2 h3
    obtain ⟨fu, rfl⟩ : ∃ f, fu = f + 1 := ⟨fu - 1, by omega⟩
    rw [f_X8_figuresStop_5, h.1, if_neg (nI_ge (by omega) (by omega)), byte_c h (by omega), if_pos (by omega), Option.bind_some, nI_1, stp_s (by omega), w_byte (a := 48) (b := 57) (by decide) (by decide) (h.2.2 p (by omega)).2, ih (p + 1) fu (by omega) (by omega) (by omega)]
    unfold is_fi
    by_cases c : 48 ≤ tx p ∧ tx p ≤ 57
    · rw [decide_eq_true c, if_neg (by decide), if_pos rfl]
    · rw [decide_eq_false c, if_pos rfl, if_neg (by decide)]
theorem fig_c {p : Nat} (h : TC tx t I) (hp : I 39 2 = nI p) (hpt : p ≤ t) : f_X8_figuresStop I = some (nI (stp (is_fi tx) t p)) := by
  unfold f_X8_figuresStop
  rw [hp]
  exact fig_c0 h (t - p) p g_fuel rfl hpt (by have := h.2.1; unfold g_fuel; omega)
def mt (tx : Nat → Nat) (w a b : Nat) : Bool := decide (b - a = kl w) && ball (fun k => decide (tx (a + k) = kw w k)) (kl w)
theorem spell_c {w a b : Nat} (hw : w < 18) (h : TC tx t I) (ha : I 39 2 = nI a) (hab : a ≤ b) (hb : b ≤ t) : f_X8_spells (nI b) w I = some (mt tx w a b) := by
  have ht := h.2.1
  obtain ⟨k1, k2⟩ := kl_b w hw
  unfold f_X8_spells mt
  rw [ha, nI_sub hab, show g_klen w = nI (kl w) from rfl]
  by_cases c : b - a = kl w
  · rw [if_pos (by rw [c]), decide_eq_true c, Bool.true_and]
    obtain ⟨p, ep⟩ : ∃ p : Nat → Bool, p = fun k => decide (tx (a + k) = kw w k) := ⟨_, rfl⟩
    rw [← ep]
    refine lpg (P := fun fu k => ball p k = true → f_X8_spells_17 fu w (nI k) I = some (ball p (kl w))) (n := kl w) (by omega) (fun fu q => ?_) (fun fu k hk ih q => ?_) 0 (by omega) rfl
    · rw [f_X8_spells_17, show g_klen w = nI (kl w) from rfl, if_pos (nI_le (Nat.le_refl _) (by omega)), q]
    · rw [f_X8_spells_17, show g_klen w = nI (kl w) from rfl, if_neg (nI_ge hk (by omega)), ha, nI_add, byte_c h (by omega), if_pos (by omega), Option.bind_some, show (g_kb w).length = kl w from rfl, gin_nI hk (by omega), if_pos rfl, nI_1]
      have ek : g_kch w (nI k) = nI (kw w k) := by
        unfold g_kch
        rw [nI_clamp (by omega)]
        exact (kw_b w hw k hk).2.2
      rw [ek]
      have hp : p k = decide (tx (a + k) = kw w k) := by rw [ep]
      have hbq : ball p (k + 1) = p k := by
        show (ball p k && p k) = p k
        rw [q, Bool.true_and]
      have hx := (h.2.2 (a + k) (by omega)).2
      have hy := (kw_b w hw k hk).2.1
      by_cases d : tx (a + k) = kw w k
      · rw [if_pos (by rw [d])]
        refine ih ?_
        rw [hbq, hp]
        exact decide_eq_true d
      · rw [if_neg (fun z => d ((nI_eq (by omega) (by omega)).mp z))]
        congr 1
        symm
        rw [← Bool.not_eq_true, ball_iff]
        intro z
        have := z k hk
        rw [hp] at this
        exact d (of_decide_eq_true this)
  · rw [if_neg (fun z => c ((nI_eq (by omega) (by omega)).mp z)), decide_eq_false c]
    rfl
/-! the model's -/
theorem here_m0 : ∀ (d p fu : Nat) (I : gI), t - p = d → p ≤ t → d < fu → TM tx t I → I 87 14 = nI p → ∃ I2, f_X10_here_0 fu (nI t) I = some (if stp (is_bl tx) t p < t then nI (tx (stp (is_bl tx) t p)) else -1, I2) ∧ (∀ a k, ¬ (a = 87 ∧ k = 14) → I2 a k = I a k) ∧ I2 87 14 = nI (stp (is_bl tx) t p) := by
  intro d
  induction d with
  | zero =>
    intro p fu I h1 h2 h3 h4 h5
    obtain ⟨fu, rfl⟩ : ∃ f, fu = f + 1 := ⟨fu - 1, by omega⟩
    have ht := h4.2.1
    refine ⟨I, ?_, fun _ _ _ => rfl, by rw [stp_ge (by omega)]; exact h5⟩
    have hle : nI t ≤ nI p := nI_le (by omega) (by omega)
    rw [f_X10_here_0, h5, if_pos hle]
    unfold f_X10_here_35
    rw [h5, if_pos hle, stp_ge (by omega), if_neg (by omega)]
  | succ d ih =>
    intro p fu I h1 h2 h3 h4 h5
    obtain ⟨fu, rfl⟩ : ∃ f, fu = f + 1 := ⟨fu - 1, by omega⟩
    have ht := h4.2.1
    have hnl : ¬ nI t ≤ nI p := nI_ge (by omega) (by omega)
    have hg : g_in (nI p) 100 = true := gin_nI (by omega) (by omega)
    have hc : (nI p).toNatClampNeg = p := nI_clamp (by omega)
    rw [f_X10_here_0, h5, if_neg hnl, hg, if_pos rfl, hc, (h4.2.2 p (by omega)).1, nI_1]
    by_cases c : tx p = 32
    · have eb : stp (is_bl tx) t p = stp (is_bl tx) t (p + 1) := by rw [stp_s (by omega), if_pos (show is_bl tx p = true from decide_eq_true c)]
      rw [eb, if_pos (show nI (tx p) = 32 by rw [c]; rfl)]
      obtain ⟨I2, i1, i2, i3⟩ := ih (p + 1) fu (g_u I 87 14 (nI (p + 1))) (by omega) (by omega) (by omega) (h4.fr fun a k q => by rw [u_ap, if_neg (by omega)]) (u_eq rfl rfl)
      exact ⟨I2, i1, fun a k q => by rw [i2 a k q, u_ap, if_neg q], i3⟩
    · have eb : stp (is_bl tx) t p = p := by rw [stp_s (by omega), if_neg (by unfold is_bl; rw [decide_eq_false c]; decide)]
      rw [eb, if_neg (show ¬ nI (tx p) = 32 from fun q => c ((nI_eq (b := 32) (by have := (h4.2.2 p (by omega)).2; omega) (by omega)).mp q)), if_pos (show p < t by omega)]
      unfold f_X10_here_35
      rw [h5, if_neg hnl, hg, if_pos rfl, hc, (h4.2.2 p (by omega)).1]
      exact ⟨I, rfl, fun _ _ _ => rfl, h5⟩
theorem here_m {p : Nat} (h : TM tx t I) (hp : I 87 14 = nI p) (hpt : p ≤ t) : ∃ I2, f_X10_here (nI t) I = some (if stp (is_bl tx) t p < t then nI (tx (stp (is_bl tx) t p)) else -1, I2) ∧ (∀ a k, ¬ (a = 87 ∧ k = 14) → I2 a k = I a k) ∧ I2 87 14 = nI (stp (is_bl tx) t p) := here_m0 (t - p) p g_fuel I rfl hpt (by have := h.2.1; unfold g_fuel; omega) h hp
theorem take_m0 {a : Nat} : ∀ (d p fu : Nat) (I : gI), t - p = d → p ≤ t → a ≤ p → d < fu → TM tx t I → I 87 14 = nI p → I 87 17 = nI a → ∃ I2, f_X10_takeWord_14 fu (nI t) I = some I2 ∧ (∀ b k, ¬ (b = 87 ∧ (k = 14 ∨ k = 18)) → I2 b k = I b k) ∧ I2 87 14 = nI (stp (is_le tx) t p) ∧ I2 87 18 = nI (stp (is_le tx) t p - a) := by
  intro d
  induction d with
  | zero =>
    intro p fu I h1 h2 ha h3 h4 h5 h6
    obtain ⟨fu, rfl⟩ : ∃ f, fu = f + 1 := ⟨fu - 1, by omega⟩
    have ht := h4.2.1
    have hle : nI t ≤ nI p := nI_le (by omega) (by omega)
    rw [f_X10_takeWord_14, h5, if_pos hle, stp_ge (by omega)]
    unfold f_X10_takeWord_57
    rw [h5, h6, nI_sub ha]
    exact ⟨_, rfl, fun b k q => by rw [u_ap, if_neg (by omega)], by rw [u_nk (by omega)]; exact h5, u_eq rfl rfl⟩
  | succ d ih =>
    intro p fu I h1 h2 ha h3 h4 h5 h6
    obtain ⟨fu, rfl⟩ : ∃ f, fu = f + 1 := ⟨fu - 1, by omega⟩
    have ht := h4.2.1
    rw [f_X10_takeWord_14, h5, if_neg (nI_ge (by omega) (by omega)), gin_nI (by omega) (by omega), if_pos rfl, nI_clamp (by omega), (h4.2.2 p (by omega)).1, m_byte (a := 97) (b := 122) (by decide) (by decide) (h4.2.2 p (by omega)).2, nI_1, stp_s (by omega)]
    unfold is_le
    by_cases c : 97 ≤ tx p ∧ tx p ≤ 122
    · rw [decide_eq_true c, if_neg (by decide), if_pos rfl]
      obtain ⟨I2, i1, i2, i3, i4⟩ := ih (p + 1) fu (g_u I 87 14 (nI (p + 1))) (by omega) (by omega) (by omega) (by omega) (h4.fr fun a k q => by rw [u_ap, if_neg (by omega)]) (u_eq rfl rfl) (by rw [u_nk (by omega)]; exact h6)
      exact ⟨I2, i1, fun b k q => by rw [i2 b k q, u_ap, if_neg (by omega)], i3, i4⟩
    · rw [decide_eq_false c, if_pos rfl, if_neg (by decide)]
      unfold f_X10_takeWord_57
      rw [h5, h6, nI_sub ha]
      exact ⟨_, rfl, fun b k q => by rw [u_ap, if_neg (by omega)], by rw [u_nk (by omega)]; exact h5, u_eq rfl rfl⟩
theorem take_m {p : Nat} (h : TM tx t I) (hp : I 87 14 = nI p) (hpt : p ≤ t) : ∃ I2, f_X10_takeWord (nI t) I = some I2 ∧ (∀ b k, ¬ (b = 87 ∧ (k = 14 ∨ k = 17 ∨ k = 18)) → I2 b k = I b k) ∧ I2 87 17 = nI (stp (is_bl tx) t p) ∧ I2 87 14 = nI (stp (is_le tx) t (stp (is_bl tx) t p)) ∧ I2 87 18 = nI (stp (is_le tx) t (stp (is_bl tx) t p) - stp (is_bl tx) t p) := by
  obtain ⟨I1, a1, a2, a3⟩ := here_m h hp hpt
  obtain ⟨b1, b2, -⟩ := stp_b' (P := is_bl tx) hpt
  unfold f_X10_takeWord
  rw [a1, Option.bind_some]
  try dsimp only
  rw [a3]
  obtain ⟨I2, c1, c2, c3, c4⟩ := take_m0 (tx := tx) (t := t) (a := stp (is_bl tx) t p) (t - stp (is_bl tx) t p) (stp (is_bl tx) t p) g_fuel (g_u I1 87 17 (nI (stp (is_bl tx) t p))) rfl b2 (Nat.le_refl _) (by have := h.2.1; unfold g_fuel; omega) (h.fr fun a k q => by rw [u_ap, if_neg (by omega)]; exact a2 a k (by omega)) (by rw [u_nk (by omega)]; exact a3) (u_eq rfl rfl)
  exact ⟨I2, c1, fun b k q => by rw [c2 b k (by omega), u_ap, if_neg (by omega)]; exact a2 b k (by omega), by rw [c2 87 17 (by omega), u_eq rfl rfl], c3, c4⟩
def En (f : Nat → Nat) : Nat → Nat
  | 0 => 0
  | k + 1 => 32 * En f k + f k - 96
theorem En_s (f : Nat → Nat) (k : Nat) : En f (k + 1) = 32 * En f k + f k - 96 := rfl
theorem En_b {f : Nat → Nat} : ∀ n, n ≤ 9 → (∀ k, k < n → 97 ≤ f k ∧ f k ≤ 122) → En f n < 32 ^ n := by
  intro n
  induction n with
  | zero =>
    intro _ _
    show 0 < 32 ^ 0
    decide
  | succ n ih =>
    intro hn h
    have i := ih (by omega) (fun k hk => h k (by omega))
    have := h n (by omega)
    have e : 32 ^ (n + 1) = 32 ^ n * 32 := Nat.pow_succ 32 n
    rw [En_s]
    omega
theorem En_inj {f g : Nat → Nat} : ∀ n, (∀ k, k < n → 97 ≤ f k ∧ f k ≤ 122) → (∀ k, k < n → 97 ≤ g k ∧ g k ≤ 122) → (En f n = En g n ↔ ∀ k, k < n → f k = g k) := by
  intro n
  induction n with
  | zero => intro _ _; exact ⟨fun _ k hk => by omega, fun _ => rfl⟩
  | succ n ih =>
    intro h1 h2
    have i := ih (fun k hk => h1 k (by omega)) (fun k hk => h2 k (by omega))
    have a := h1 n (by omega)
    have b := h2 n (by omega)
    rw [En_s, En_s]
    constructor
    · intro e k hk
      have e1 : En f n = En g n := by omega
      by_cases q : k = n
      · rw [q]
        omega
      · exact i.mp e1 k (by omega)
    · intro e
      rw [i.mpr (fun k hk => e k (by omega)), e n (by omega)]
theorem isw_m {w a b n : Nat} {y : Int64} (hw : w < 18) (h : TM tx t I) (h17 : I 87 17 = nI a) (h18 : I 87 18 = nI (b - a)) (hab : a ≤ b) (hb : b ≤ t) (hl : ∀ k, a ≤ k → k < b → is_le tx k = true) (hn : n = kl w) (hy : y.toInt = ((En (kw w) (kl w) : Nat) : Int)) : f_X10_isWord y (nI n) I = some (mt tx w a b) := by
  have ht := h.2.1
  obtain ⟨k1, k2⟩ := kl_b w hw
  have hf : ∀ k, k < b - a → 97 ≤ tx (a + k) ∧ tx (a + k) ≤ 122 := fun k hk => of_decide_eq_true (hl (a + k) (by omega) (by omega))
  obtain ⟨s, es⟩ : ∃ s, s = min (b - a) 9 := ⟨_, rfl⟩
  have l32 : (32 : Int64).toInt = 32 := by decide
  have l96 : (96 : Int64).toInt = 96 := by decide
  have p9 : ∀ k, k ≤ 9 → 32 ^ k ≤ 35184372088832 := by decide
  have key : ∃ yy : Int64, f_X10_isWord y (nI n) I = f_X10_isWord_54 y (nI n) yy I ∧ yy.toInt = ((En (fun k => tx (a + k)) s : Nat) : Int) := by
    unfold f_X10_isWord
    refine lpg (P := fun fu k => ∀ y4 : Int64, y4.toInt = ((En (fun k => tx (a + k)) k : Nat) : Int) → ∃ yy : Int64, f_X10_isWord_6 fu y (nI n) y4 (nI k) I = f_X10_isWord_54 y (nI n) yy I ∧ yy.toInt = ((En (fun k => tx (a + k)) s : Nat) : Int)) (n := s) (by omega) (fun fu y4 q => ?_) (fun fu k hk ih y4 q => ?_) 0 (by omega) 0 rfl
    · refine ⟨y4, ?_, q⟩
      rw [f_X10_isWord_6, h18]
      by_cases c : b - a ≤ s
      · rw [if_pos (nI_le c (by omega))]
      · rw [if_neg (nI_ge (by omega) (by omega)), if_pos (show (9 : Int32) ≤ nI s from nI_le (a := 9) (by omega) (by omega))]
    · rw [f_X10_isWord_6, h18, if_neg (nI_ge (show k < b - a by omega) (by omega)), if_neg (show ¬ (9 : Int32) ≤ nI k from nI_ge (b := 9) (by omega) (by omega)), h17, nI_add, gin_nI (by omega) (by omega), if_pos rfl, nI_clamp (by omega), (h.2.2 (a + k) (by omega)).1, nI_1]
      have hfk := hf k (by omega)
      have hE := En_b (f := fun k => tx (a + k)) k (by omega) (fun j hj => hf j (by omega))
      have h9 := p9 k (by omega)
      have e1 : ((32 : Int64) * y4).toInt = 32 * ((En (fun k => tx (a + k)) k : Nat) : Int) := by
        rw [l_mul (by rw [l32, q]; omega) (by rw [l32, q]; omega), l32, q]
      have e2 : (Int32.toInt64 (nI (tx (a + k)))).toInt = (tx (a + k) : Int) := by rw [Int32.toInt_toInt64, nI_toInt (by omega)]
      have e3 : ((32 : Int64) * y4 + Int32.toInt64 (nI (tx (a + k)))).toInt = 32 * ((En (fun k => tx (a + k)) k : Nat) : Int) + (tx (a + k) : Int) := by
        rw [l_add (by rw [e1, e2]; omega) (by rw [e1, e2]; omega), e1, e2]
      refine ih _ ?_
      rw [l_sub (by rw [e3, l96]; omega) (by rw [e3, l96]; omega), e3, l96, En_s]
      omega
  obtain ⟨yy, e1, e2⟩ := key
  rw [e1]
  unfold f_X10_isWord_54 mt
  rw [h18, hn]
  by_cases c : b - a = kl w
  · rw [if_pos (by rw [c]), decide_eq_true c, Bool.true_and]
    have hs : s = kl w := by omega
    rw [hs] at e2
    have hi := En_inj (f := fun k => tx (a + k)) (g := kw w) (kl w) (fun k hk => hf k (by omega)) (fun k hk => ⟨(kw_b w hw k hk).1, (kw_b w hw k hk).2.1⟩)
    by_cases d : lg_cmp yy y = 0
    · rw [if_pos d]
      have d2 := (c_eq0 _ _).mp d
      rw [e2, hy] at d2
      congr 1
      symm
      rw [ball_iff]
      intro k hk
      exact decide_eq_true (hi.mp (by omega) k hk)
    · rw [if_neg d]
      congr 1
      symm
      rw [← Bool.not_eq_true, ball_iff]
      intro z
      apply d
      rw [c_eq0, e2, hy, hi.mpr (fun k hk => of_decide_eq_true (z k hk))]
  · rw [if_neg (fun z => c ((nI_eq (by omega) (by omega)).mp z)), decide_eq_false c]
    rfl
end TXT
