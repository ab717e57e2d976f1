/-! nearness as it is read for a tally; score, sure -/
def RB (I : gI) (i : Nat) : Int64 := if f_X2_touchesPin (3 + 3 * i) I = false then (100 : Int64) * Int32.toInt64 (f_X2_square (3 + 3 * i) I) else 0
def TB (I : gI) (i : Nat) : Int64 := if f_X2_touchesPin (3 + 3 * i) I = false then (10 : Int64) * Int32.toInt64 (I (3 + 3 * i) 5 - I (3 + 3 * i) 3) else (10 : Int64) * Int32.toInt64 (I (3 + 3 * i) 5)
def SPN (I : gI) (fav : Int32) (i : Nat) : Bool := !decide (fav = -1) && sp_has I i
def Rf (I : gI) (fav : Int32) (i : Nat) : Int64 := if SPN I fav i = true then 0 else RB I i
def Tf (I : gI) (fav : Int32) (i : Nat) : Int64 := if SPN I fav i = true then (if sd I i = fav then Int32.toInt64 (sp_lo I i) else Int32.toInt64 (sp_hi I i)) else TB I i
theorem rf_c {I : gI} {i : Nat} (fav : Int32) (h : q_iron I i) : f_X2_rootOf (3 + 3 * i) (f_X7_readingOf (3 + 3 * i) fav I) I = some (Rf I fav i) ∧ f_X2_tenths (3 + 3 * i) (f_X7_readingOf (3 + 3 * i) fav I) I = some (Tf I fav i) := by
  have hB : ∀ r : Int32, f_X2_readsSpan (3 + 3 * i) r I = some false → f_X2_rootOf (3 + 3 * i) r I = some (RB I i) ∧ f_X2_tenths (3 + 3 * i) r I = some (TB I i) := by
    intro r hr
    unfold f_X2_rootOf f_X2_tenths f_X2_rootOf_15 RB TB
    rw [hr]
    simp only [Option.bind_some, Bool.false_eq_true, if_false, if_true]
    by_cases c : f_X2_touchesPin (3 + 3 * i) I = false
    · simp only [if_pos c]
      exact ⟨trivial, trivial⟩
    · simp only [if_neg c]
      exact ⟨trivial, trivial⟩
  have hS : ∀ r : Int32, f_X2_readsSpan (3 + 3 * i) r I = some true → f_X2_rootOf (3 + 3 * i) r I = some 0 ∧ f_X2_tenths (3 + 3 * i) r I = some (if r = 1 then Int32.toInt64 (sp_lo I i) else Int32.toInt64 (sp_hi I i)) := by
    intro r hr
    unfold f_X2_rootOf f_X2_tenths f_X2_rootOf_15
    rw [hr, (c_low h).1, c_high h]
    simp only [Option.bind_some, Bool.true_eq_false, if_false, if_true]
    by_cases c : r = 1
    · simp only [if_pos c]
      exact ⟨trivial, trivial⟩
    · simp only [if_neg c]
      exact ⟨trivial, trivial⟩
  have hr0 : f_X2_readsSpan (3 + 3 * i) 0 I = some false := rfl
  have hr1 : ∀ r : Int32, ¬ r = 0 → f_X2_readsSpan (3 + 3 * i) r I = some (sp_has I i) := by
    intro r hr
    unfold f_X2_readsSpan
    rw [if_neg hr, c_cnt h]
    simp only [Option.bind_some]
    by_cases c : sp_has I i = false
    · rw [if_pos (sp_n0.1.mpr c), c]
    · rw [if_neg (fun q => c (sp_n0.1.mp q))]
      rw [show sp_has I i = true by simpa using c]
  unfold f_X7_readingOf Rf Tf SPN
  rw [show I (3 + 3 * i) 0 = sd I i from rfl]
  by_cases c1 : fav = -1
  · rw [if_pos c1, decide_eq_true c1]
    exact hB 0 hr0
  · rw [if_neg c1, decide_eq_false c1, Bool.not_false, Bool.true_and]
    by_cases c2 : sd I i = fav
    · rw [if_pos c2, if_pos c2]
      by_cases c3 : sp_has I i = true
      · rw [if_pos c3, if_pos c3]
        exact hS 1 (by rw [hr1 1 (by decide), c3])
      · rw [if_neg c3, if_neg c3]
        exact hB 1 (by rw [hr1 1 (by decide)]; simpa using c3)
    · rw [if_neg c2, if_neg c2]
      by_cases c3 : sp_has I i = true
      · rw [if_pos c3, if_pos c3]
        exact hS 2 (by rw [hr1 2 (by decide), c3])
      · rw [if_neg c3, if_neg c3]
        exact hB 2 (by rw [hr1 2 (by decide)]; simpa using c3)
theorem rf_sm {m : Nat} {I I1 : gI} {i : Nat} (fav : Int32) (s : sm m I I1) (hi : i < 12) : Rf I1 fav i = Rf I fav i ∧ Tf I1 fav i = Tf I fav i := by
  have e : ∀ k, I1 (3 + 3 * i) k = I (3 + 3 * i) k := fun k => s _ _ (by unfold scr; omega)
  have e95 : ∀ k, I1 96 k = I 96 k := fun k => s _ _ (by unfold scr; omega)
  have e96 : ∀ k, I1 97 k = I 97 k := fun k => s _ _ (by unfold scr; omega)
  have e97 : ∀ k, I1 98 k = I 98 k := fun k => s _ _ (by unfold scr; omega)
  unfold Rf Tf SPN RB TB sp_has sp_lo sp_hi lo1 hi1 sd f_X2_touchesPin f_X2_square
  simp only [e, e95, e96, e97]
  exact ⟨trivial, trivial⟩
def jr (R T : Nat → Int64) (J : gJ) : Nat → gJ
  | 0 => J
  | k + 1 => g_u (g_u (jr R T J k) 58 k (R k)) 59 k (T k)
theorem jr_fr {R T : Nat → Int64} {J : gJ} : ∀ k b j, b ≠ 58 → b ≠ 59 → jr R T J k b j = J b j := by
  intro k
  induction k with
  | zero => intro b j _ _; rfl
  | succ k ih =>
    intro b j h1 h2
    show (g_u (g_u (jr R T J k) 58 k (R k)) 59 k (T k)) b j = _
    rw [u_na h2, u_na h1]
    exact ih b j h1 h2
theorem jr_v {R T : Nat → Int64} {J : gJ} : ∀ k i, i < k → jr R T J k 58 i = R i ∧ jr R T J k 59 i = T i := by
  intro k
  induction k with
  | zero => intro i h; omega
  | succ k ih =>
    intro i h
    show (g_u (g_u (jr R T J k) 58 k (R k)) 59 k (T k)) 58 i = _ ∧ (g_u (g_u (jr R T J k) 58 k (R k)) 59 k (T k)) 59 i = _
    by_cases e : i = k
    · subst e
      rw [u_na (by omega), u_eq rfl rfl, u_eq rfl rfl]
      exact ⟨rfl, rfl⟩
    · rw [u_na (by omega), u_nk e, u_nk e, u_na (by omega)]
      exact ih i (by omega)
theorem rn_c {m n : Nat} {I I1 : gI} (fav : Int32) (J : gJ) (hc : q_clay I n) (s : sm m I I1) : f_X7_readNearness fav I1 J = some (jr (Rf I fav) (Tf I fav) J n) := by
  obtain ⟨h1, h2, hn, h4⟩ := hc.sm s
  unfold f_X7_readNearness
  refine lpg (P := fun fu k => f_X7_readNearness_2 fu fav (nI k) I1 (jr (Rf I fav) (Tf I fav) J k) = some (jr (Rf I fav) (Tf I fav) J n)) (n := n) (by omega) (fun fu => ?_) (fun fu k hk ih => ?_) 0 (by omega)
  · rw [f_X7_readNearness_2, h1, if_pos (nI_le (Nat.le_refl _) (by omega))]
  · obtain ⟨r1, r2⟩ := rf_c fav (h4 k hk)
    obtain ⟨q1, q2⟩ := rf_sm fav s (show k < 12 by omega)
    rw [q1] at r1
    rw [q2] at r2
    rw [f_X7_readNearness_2, h1, if_neg (nI_ge hk (by omega)), gin_nI (by omega) (by omega), if_pos rfl, nI_clamp (by omega), r1, Option.bind_some, if_pos rfl, r2, Option.bind_some, if_pos rfl, nI_1]
    exact ih
theorem lay_m {I : gI} {i : Nat} (J : gJ) (hi : i < 12) (h : q_iron I i) : ∃ r w, f_X10_layNearness (nI i) I J = some (g_u (g_u J 103 i r) 104 i w) ∧ NE (RB I i) (TB I i) r w := by
  obtain ⟨R, T, r, w, a1, a2, a3, a4, ⟨b1, b2⟩, ⟨b3, b4⟩, b5, ⟨b7, b8⟩, b6⟩ := near_v hi h
  obtain ⟨c1, c2⟩ := rf_c (-1) h
  have hrd : f_X7_readingOf (3 + 3 * i) (-1) I = 0 := rfl
  rw [hrd] at c1 c2
  have eR : Rf I (-1) i = RB I i := rfl
  have eT : Tf I (-1) i = TB I i := rfl
  rw [a1, eR] at c1
  rw [a2, eT] at c2
  cases c1
  cases c2
  have e100 : (100 : Int64).toInt = 100 := by decide
  have e10 : (10 : Int64).toInt = 10 := by decide
  have f1 : ((100 : Int64) * r).toInt = 100 * r.toInt := by
    rw [l_mul (by rw [e100]; omega) (by rw [e100]; omega), e100]
  have f2 : ((10 : Int64) * w).toInt = 10 * w.toInt := by
    rw [l_mul (by rw [e10]; omega) (by rw [e10]; omega), e10]
  refine ⟨(100 : Int64) * r, (10 : Int64) * w, ?_, b5, ⟨b7, by omega⟩, ?_, ?_, ?_⟩
  · unfold f_X10_layNearness
    rw [a3, Option.bind_some, gin_nI hi (by omega), if_pos rfl, a4, Option.bind_some, if_pos rfl, nI_clamp (by omega)]
  · rw [f1]
    omega
  · rw [f2]
    omega
  · rw [f1, f2]
    exact b6
theorem sp_bd {I : gI} {i : Nat} (h : q_iron I i) : q_b (sp_lo I i) 0 9999 ∧ q_b (sp_hi I i) 0 9999 := by
  have h1 : ∀ k, k < 3 → ∀ x, q_b x 0 9999 → q_b (lo1 I i k x) 0 9999 ∧ q_b (hi1 I i k x) 0 9999 := by
    intro k hk x hx
    unfold lo1 hi1
    rcases h.2.2.1 k hk with ⟨-, a⟩ | ⟨a, -, -, b1, b2, b3⟩
    · rw [if_pos a, if_pos a]
      exact ⟨hx, hx⟩
    · have na : ¬ I 96 (3 * i + k) = 0 := by
        rw [a]
        decide
      rw [if_neg na, if_neg na]
      constructor
      · split
        · exact hx
        · exact ⟨b1, by omega⟩
      · split
        · exact hx
        · exact ⟨by omega, b3⟩
  have z0 : q_b 0 0 9999 := by decide
  have z9 : q_b 9999 0 9999 := by decide
  unfold sp_lo sp_hi
  exact ⟨(h1 2 (by omega) _ (h1 1 (by omega) _ (h1 0 (by omega) _ z0).1).1).1, (h1 2 (by omega) _ (h1 1 (by omega) _ (h1 0 (by omega) _ z9).2).2).2⟩
theorem NE_sp {x : Int32} (h : q_b x 0 9999) : NE 0 (Int32.toInt64 x) 0 (Int32.toInt64 x) := by
  obtain ⟨h1, h2⟩ := h
  have z0 : (0 : Int64).toInt = 0 := by decide
  unfold NE
  rw [z0, Int32.toInt_toInt64]
  exact ⟨by omega, by omega, by omega, by omega, Or.inl ⟨rfl, rfl⟩⟩
/-! both, the class and then the model -/
theorem A_sm {m n v s : Nat} {I I1 : gI} {J : gJ} (h : sm m I I1) (hn : n ≤ 12) : A_m I1 v n s J = A_m I v n s J := by
  have e99 : ∀ k, I1 100 k = I 100 k := fun k => h _ _ (by unfold scr; omega)
  unfold A_m M_ow M_ag M_ot
  rw [CT_sm h hn, RG_sm h hn, SD_sm h hn, e99]
theorem PTS_sm {m n v s : Nat} {I I1 : gI} {P G : Int32} (h : sm m I I1) (hn : n ≤ 12) : PTS I1 v n s P G = PTS I v n s P G := by
  have e99 : ∀ k, I1 100 k = I 100 k := fun k => h _ _ (by unfold scr; omega)
  unfold PTS
  rw [SD_sm h hn, e99, e99]
theorem sc_b {m n v : Nat} {I : gI} {J : gJ} (fav : Int32) (hc : q_clay I n) (hr : q_rules I) (hv : v < 6) : ∃ c p a x y I1 J1, f_X7_work (42 + 2 * v) fav I J = some (I1, J1) ∧ sm m I I1 ∧ sj J J1 ∧ I1 56 0 = c ∧ I1 56 1 = p ∧ I1 56 2 = a ∧ I1 57 0 = x ∧ I1 57 1 = y ∧ ∀ I' J', sm m I I' → (∀ i, i < n → NE (Rf I fav i) (Tf I fav i) (J' 103 i) (J' 104 i)) → ∃ I2, f_X10_findScore (nI v) I' J' = some I2 ∧ sm m I' I2 ∧ I2 87 22 = c ∧ I2 87 23 = p ∧ I2 87 24 = a ∧ I2 102 0 = x ∧ I2 102 1 = y := by
  have hn := hc.2.2.1
  obtain ⟨P, p1, p2, p3, p4⟩ := pay_b hc hr hv
  have h2 := (hr v hv 2 (by omega)).2
  have e2 : q_hi 2 = 12 := by decide
  rw [e2] at h2
  obtain ⟨q, -, hq, eq⟩ := nI_b (a := 0) (b := 12) h2 (by omega)
  have h3 := (hr v hv 3 (by omega)).2
  have e3 : q_hi 3 = 20 := by decide
  rw [e3] at h3
  obtain ⟨J1, eJ1⟩ : ∃ J1, J1 = jr (Rf I fav) (Tf I fav) J n := ⟨_, rfl⟩
  obtain ⟨G0, a1, a2, a3⟩ := first_v (A_c I v n 0 J1) hq
  obtain ⟨G1, b1, b2, b3⟩ := first_v (A_c I v n 1 J1) hq
  have lG : ∀ {G X : Int32}, (∀ i, tb G i = true → i < 12 ∧ tb X i = true) → low G := fun h i hi => by
    rw [← Bool.not_eq_true]
    intro z
    have := (h i z).1
    omega
  obtain ⟨I1, w1, w2, w3, w4, w5, w6, w7⟩ := work_c (J := J) (J1 := J1) (fav := fav) hc hr hv p1 (fun I1 f => by
    rw [eJ1]
    exact rn_c (m := m) fav J hc (fun a k z => f a k (fun e => z (by unfold scr; omega)))) (by rw [eq]; exact a1) (by rw [eq]; exact b1)
  refine ⟨_, _, _, _, _, I1, J1, w1, fun a k z => w2 a k (fun e => z (by unfold scr; omega)), fun b hb k => by rw [eJ1]; exact jr_fr n b k (by omega) (by omega), w3, w4, w5, w6, w7, fun I' J' s hJ => ?_⟩
  have hNR : NR n J1 J' := fun i hi => by
    obtain ⟨v1, v2⟩ := jr_v (R := Rf I fav) (T := Tf I fav) (J := J) n i hi
    rw [eJ1, v1, v2]
    exact hJ i hi
  have eA : ∀ s, A_c I v n s J1 = A_m I v n s J' := fun s => ah_b hn hNR h3 (ow_hi hn) (ag_hi hn)
  have e99 : ∀ k, I' 100 k = I 100 k := fun k => s _ _ (by unfold scr; omega)
  obtain ⟨I2, f1, f2, f3, f4, f5, f6, f7⟩ := find_m (I := I') (J := J') (P := P) (G0 := G0) (G1 := G1) (hc.sm s) (hr.sm s) hv (fun I2 h => by
      rw [CT_sm s hn, RG_sm s hn, SD_sm s hn]
      exact p2 I2 (by rw [h, e99])) p3 (by rw [CT_sm s hn, RG_sm s hn]; exact p4) (by rw [A_sm s hn, ← eA, e99, eq]; exact a2) (by rw [A_sm s hn, ← eA, e99, eq]; exact b2) (lG a3) (lG b3)
  rw [CT_sm s hn] at f3
  rw [PTS_sm s hn] at f6 f7
  exact ⟨I2, f1, f2.sm, f3, f4, f5, f6, f7⟩
theorem lay_s {n : Nat} {I : gI} {J : gJ} (x1 x2 : Int32) (hc : q_clay I n) : ∃ J2, f_X10_score_13 g_fuel x1 x2 0 I J = f_X10_score_13 1 x1 x2 (nI n) I J2 ∧ sj J J2 ∧ ∀ i, i < n → NE (Rf I (-1) i) (Tf I (-1) i) (J2 103 i) (J2 104 i) := by
  obtain ⟨h1, h2, hn, h4⟩ := hc
  refine lpg (P := fun fu k => ∀ J1, sj J J1 → (∀ i, i < k → NE (Rf I (-1) i) (Tf I (-1) i) (J1 103 i) (J1 104 i)) → ∃ J2, f_X10_score_13 fu x1 x2 (nI k) I J1 = f_X10_score_13 1 x1 x2 (nI n) I J2 ∧ sj J J2 ∧ ∀ i, i < n → NE (Rf I (-1) i) (Tf I (-1) i) (J2 103 i) (J2 104 i)) (n := n) (by omega) (fun fu J1 a1 a2 => ?_) (fun fu k hk ih J1 a1 a2 => ?_) 0 (by omega) J sj.rfl (fun i hi => absurd hi (by omega))
  · refine ⟨J1, ?_, a1, a2⟩
    rw [f_X10_score_13, f_X10_score_13, h2, if_pos (nI_le (Nat.le_refl _) (by omega)), if_pos (nI_le (Nat.le_refl _) (by omega))]
  · obtain ⟨r, w, e1, e2⟩ := lay_m J1 (show k < 12 by omega) (h4 k hk)
    rw [f_X10_score_13, h2, if_neg (nI_ge hk (by omega)), e1, Option.bind_some, nI_1]
    refine ih _ ((a1.u (by omega)).u (by omega)) (fun i hi => ?_)
    by_cases e : i = k
    · subst e
      rw [u_na (by omega), u_eq rfl rfl, u_eq rfl rfl]
      exact e2
    · rw [u_na (by omega), u_nk e, u_nk e, u_na (by omega)]
      exact a2 i (by omega)
theorem lay_f {n : Nat} {I : gI} {J : gJ} (x1 : Int32) {best : Int32} (hb : ¬ best = -1) (hc : q_clay I n) : ∃ J2, f_X10_scoreFor x1 best I J = f_X10_scoreFor_2 1 x1 best (nI n) I J2 ∧ sj J J2 ∧ ∀ i, i < n → NE (Rf I best i) (Tf I best i) (J2 103 i) (J2 104 i) := by
  obtain ⟨h1, h2, hn, h4⟩ := hc
  unfold f_X10_scoreFor
  refine lpg (P := fun fu k => ∀ J1, sj J J1 → (∀ i, i < k → NE (Rf I best i) (Tf I best i) (J1 103 i) (J1 104 i)) → ∃ J2, f_X10_scoreFor_2 fu x1 best (nI k) I J1 = f_X10_scoreFor_2 1 x1 best (nI n) I J2 ∧ sj J J2 ∧ ∀ i, i < n → NE (Rf I best i) (Tf I best i) (J2 103 i) (J2 104 i)) (n := n) (by omega) (fun fu J1 a1 a2 => ?_) (fun fu k hk ih J1 a1 a2 => ?_) 0 (by omega) J sj.rfl (fun i hi => absurd hi (by omega))
  · refine ⟨J1, ?_, a1, a2⟩
    rw [f_X10_scoreFor_2, f_X10_scoreFor_2, h2, if_pos (nI_le (Nat.le_refl _) (by omega)), if_pos (nI_le (Nat.le_refl _) (by omega))]
  · have hq := h4 k hk
    have hk12 : k < 12 := by omega
    obtain ⟨r, w, e1, e2⟩ := lay_m J1 hk12 hq
    have go : ∀ J3 : gJ, sj J J3 → (∀ i, i ≠ k → J3 103 i = J1 103 i ∧ J3 104 i = J1 104 i) → NE (Rf I best k) (Tf I best k) (J3 103 k) (J3 104 k) → ∃ J2, f_X10_scoreFor_2 fu x1 best (nI (k + 1)) I J3 = f_X10_scoreFor_2 1 x1 best (nI n) I J2 ∧ sj J J2 ∧ ∀ i, i < n → NE (Rf I best i) (Tf I best i) (J2 103 i) (J2 104 i) := by
      intro J3 g1 g2 g3
      refine ih J3 g1 (fun i hi => ?_)
      by_cases e : i = k
      · rw [e]
        exact g3
      · rw [(g2 i e).1, (g2 i e).2]
        exact a2 i (by omega)
    rw [f_X10_scoreFor_2, h2, if_neg (nI_ge hk (by omega)), e1, Option.bind_some, m_has hk12, Option.bind_some, gin_nI hk12 (by omega), nI_clamp (by omega), ← hq.1.1]
    unfold f_X10_scoreFor_52 f_X10_scoreFor_57
    rw [show g_b false = 0 from rfl, show g_b true = 1 from rfl, m_low hk12, m_high hk12, gin_nI hk12 (by omega), nI_clamp (by omega)]
    simp only [if_true, Option.bind_some, nI_1]
    have eS : SPN I best k = sp_has I k := by
      unfold SPN
      rw [decide_eq_false hb]
      rfl
    by_cases c : sp_has I k = false
    · rw [if_pos c]
      refine go _ ((a1.u (by omega)).u (by omega)) (fun i e => ?_) ?_
      · rw [u_na (by omega), u_nk e, u_nk e, u_na (by omega)]
        exact ⟨rfl, rfl⟩
      · rw [u_na (by omega), u_eq rfl rfl, u_eq rfl rfl]
        unfold Rf Tf
        rw [eS, c]
        exact e2
    · rw [if_neg c]
      have c' : sp_has I k = true := by simpa using c
      by_cases d : I (3 + 3 * k) 0 = best
      · rw [if_pos d]
        refine go _ ((((a1.u (by omega)).u (by omega)).u (by omega)).u (by omega)) (fun i e => ?_) ?_
        · rw [u_na (by omega), u_nk e, u_na (by omega), u_nk e, u_nk e, u_na (by omega), u_nk e, u_na (by omega)]
          exact ⟨rfl, rfl⟩
        · rw [u_na (by omega), u_eq rfl rfl, u_eq rfl rfl]
          unfold Rf Tf
          rw [eS, c', if_pos rfl, if_pos rfl, if_pos (show sd I k = best from d)]
          exact NE_sp (sp_bd hq).1
      · rw [if_neg d]
        refine go _ ((((a1.u (by omega)).u (by omega)).u (by omega)).u (by omega)) (fun i e => ?_) ?_
        · rw [u_na (by omega), u_nk e, u_na (by omega), u_nk e, u_nk e, u_na (by omega), u_nk e, u_na (by omega)]
          exact ⟨rfl, rfl⟩
        · rw [u_na (by omega), u_eq rfl rfl, u_eq rfl rfl]
          unfold Rf Tf
          rw [eS, c', if_pos rfl, if_pos rfl, if_neg (show ¬ sd I k = best from d)]
          exact NE_sp (sp_bd hq).2
theorem o_score : op_score Inv := by
  intro m I J v w h
  obtain ⟨⟨n, hc⟩, -, hr, -⟩ := id h
  have e0 : (0 : Int32).toInt = 0 := by decide
  have e5 : (5 : Int32).toInt = 5 := by decide
  have n0 : Int32.toNatClampNeg 0 = 0 := by decide
  have n1 : Int32.toNatClampNeg 1 = 1 := by decide
  by_cases c1 : 0 ≤ v.toInt ∧ v.toInt ≤ 5
  rotate_left
  · refine ⟨(-1001, I, J), (-1001, I, J), ?_, ?_, rfl, h⟩
    · unfold f_X9_score
      rw [vil_c, decide_eq_false c1]
      rfl
    · show f_X10_score v w I J = _
      unfold f_X10_score
      rw [vil_m, decide_eq_false c1]
      rfl
  have vm : f_X10_isVillage v = true := by rw [vil_m]; exact decide_eq_true c1
  have vc : f_X9_isVillage v = true := by rw [vil_c]; exact decide_eq_true c1
  obtain ⟨v, hv, rfl⟩ := nI_lt_of (x := v) (n := 6) c1.1 (by omega)
  obtain ⟨c, p, a, x, y, I1, J1, q1, q2, q3, q4, q5, q6, q7, q8, q9⟩ := sc_b (m := m) (J := J) (-1) hc hr hv
  have hM : ∀ I' J', sm m I I' → sj J J' → ∃ I2 J2, sm m I I2 ∧ sj J J2 ∧ f_X10_score (nI v) w I' J' = (if w = 0 then some (x - y, I2, J2) else if w = 1 then some (x, I2, J2) else if w = 2 then some (y, I2, J2) else if w = 3 then some (c, I2, J2) else if w = 4 then some (p, I2, J2) else if w = 5 then some (a, I2, J2) else some (-1002, I2, J2)) := by
    intro I' J' s sJ
    obtain ⟨J2, l1, l2, l3⟩ := lay_s (J := J') (nI v) w (hc.sm s)
    obtain ⟨I2, f1, f2, f3, f4, f5, f6, f7⟩ := q9 I' J2 s (fun i hi => by
      have := l3 i hi
      rw [(rf_sm (-1) s (show i < 12 by have := hc.2.2.1; omega)).1, (rf_sm (-1) s (show i < 12 by have := hc.2.2.1; omega)).2] at this
      exact this)
    refine ⟨I2, J2, s.tr f2, sJ.tr l2, ?_⟩
    unfold f_X10_score
    rw [vm, if_pos rfl, l1, f_X10_score_13, (hc.sm s).2.1, if_pos (nI_le (Nat.le_refl _) (by have := hc.2.2.1; omega)), f1, Option.bind_some, n0, n1, f6, f7, f3, f4, f5]
  by_cases c2 : 0 ≤ w.toInt ∧ w.toInt ≤ 5
  · obtain ⟨I2, J2, s1, s2, s3⟩ := hM I1 J1 q2 q3
    have hC : f_X9_score (nI v) w I J = (if w = 0 then some (x - y, I1, J1) else if w = 1 then some (x, I1, J1) else if w = 2 then some (y, I1, J1) else if w = 3 then some (c, I1, J1) else if w = 4 then some (p, I1, J1) else some (a, I1, J1)) := by
      unfold f_X9_score f_X7_difference
      rw [vc, w_in, e0, e5, decide_eq_true c2, gin_nI hv (by omega), nI_clamp (by omega), q1]
      simp only [if_true, Option.bind_some, n0, n1, q4, q5, q6, q7, q8]
    have fin : ∀ r : Int32, f_X9_score (nI v) w I J = some (r, I1, J1) → f_X10_score (nI v) w I1 J1 = some (r, I2, J2) → ∃ r1 r2 : Int32 × gI × gJ, f_X9_score (nI v) w I J = some r1 ∧ f_X10_score (nI v) w r1.2.1 r1.2.2 = some r2 ∧ r1.1 = r2.1 ∧ Inv m r2.2.1 r2.2.2 := fun r x y => ⟨_, _, x, y, rfl, h.sm s1 s2⟩
    by_cases w0 : w = 0
    · exact fin (x - y) (by rw [hC, if_pos w0]) (by rw [s3, if_pos w0])
    by_cases w1 : w = 1
    · exact fin x (by rw [hC, if_neg w0, if_pos w1]) (by rw [s3, if_neg w0, if_pos w1])
    by_cases w2 : w = 2
    · exact fin y (by rw [hC, if_neg w0, if_neg w1, if_pos w2]) (by rw [s3, if_neg w0, if_neg w1, if_pos w2])
    by_cases w3 : w = 3
    · exact fin c (by rw [hC, if_neg w0, if_neg w1, if_neg w2, if_pos w3]) (by rw [s3, if_neg w0, if_neg w1, if_neg w2, if_pos w3])
    by_cases w4 : w = 4
    · exact fin p (by rw [hC, if_neg w0, if_neg w1, if_neg w2, if_neg w3, if_pos w4]) (by rw [s3, if_neg w0, if_neg w1, if_neg w2, if_neg w3, if_pos w4])
    have t : ∀ (z : Int32) (k : Int), z.toInt = k → ¬ w = z → ¬ w.toInt = k := fun z k e hne q => hne (Int32.toInt_inj.mp (q.trans e.symm))
    have t0 := t 0 0 (by decide) w0
    have t1 := t 1 1 (by decide) w1
    have t2 := t 2 2 (by decide) w2
    have t3 := t 3 3 (by decide) w3
    have t4 := t 4 4 (by decide) w4
    have w5 : w = 5 := Int32.toInt_inj.mp (by rw [e5]; omega)
    exact fin a (by rw [hC, if_neg w0, if_neg w1, if_neg w2, if_neg w3, if_neg w4]) (by rw [s3, if_neg w0, if_neg w1, if_neg w2, if_neg w3, if_neg w4, if_pos w5])
  · obtain ⟨I2, J2, s1, s2, s3⟩ := hM I J sm.rfl sj.rfl
    refine ⟨(-1002, I, J), (-1002, I2, J2), ?_, ?_, rfl, h.sm s1 s2⟩
    · unfold f_X9_score
      rw [vc, w_in, e0, e5, decide_eq_false c2]
      rfl
    · show f_X10_score (nI v) w I J = _
      rw [s3, if_neg (fun q => c2 (by rw [q]; decide)), if_neg (fun q => c2 (by rw [q]; decide)), if_neg (fun q => c2 (by rw [q]; decide)), if_neg (fun q => c2 (by rw [q]; decide)), if_neg (fun q => c2 (by rw [q]; decide)), if_neg (fun q => c2 (by rw [q]; decide))]
