/-! what the matches give the villages, of both -/
abbrev gT : Type := (Nat → Nat) × (Nat → Nat) × (Nat → Int32 × Int32 × Int32 × Nat) × (Nat → Int32)
def tt (I : gI) : gT := (fun k => (I 108 k).toNatClampNeg, fun k => (I 109 k).toNatClampNeg, fun k => M_res I k, fun k => I 114 k)
theorem tt_sm {m : Nat} {I I' : gI} (h : sm m I I') : tt I' = tt I := by
  unfold tt
  have e1 : ∀ k, I' 108 k = I 108 k := fun k => h 108 k (by unfold scr; omega)
  have e2 : ∀ k, I' 109 k = I 109 k := fun k => h 109 k (by unfold scr; omega)
  have e3 : ∀ k, I' 114 k = I 114 k := fun k => h 114 k (by unfold scr; omega)
  have e4 : ∀ k, M_res I' k = M_res I k := fun k => M_res_sm h
  simp only [e1, e2, e3, e4]
theorem st_go4 {sc gm : Nat → Int32} {dk : Bool} : ∀ (d e : Nat) (h a : Int32), (st_go sc gm dk d e h a).1 = 0 ∨ (st_go sc gm dk d e h a).1 = 1 ∨ (st_go sc gm dk d e h a).1 = 2 ∨ (st_go sc gm dk d e h a).1 = 3 := by
  intro d
  induction d with
  | zero =>
    intro e h a
    unfold st_go
    try dsimp only
    split
    · simp
    · split
      · simp
      · split <;> simp
  | succ d ih =>
    intro e h a
    unfold st_go
    generalize (h + (if sc e ≤ 0 then 0 else sc e)) = H
    generalize (a + (if 0 ≤ sc e then 0 else 0 - sc e)) = A
    by_cases c : ¬ H = A ∧ (gm e ≤ H ∨ gm e ≤ A)
    · rw [if_pos c]
      show (if H ≤ A then (2 : Int32) else 1) = 0 ∨ (if H ≤ A then (2 : Int32) else 1) = 1 ∨ (if H ≤ A then (2 : Int32) else 1) = 2 ∨ (if H ≤ A then (2 : Int32) else 1) = 3
      by_cases d : H ≤ A
      · rw [if_pos d]
        simp
      · rw [if_neg d]
        simp
    · rw [if_neg c]
      exact ih _ _ _
theorem M_res4 (I : gI) (k : Nat) : (M_res I k).1 = 0 ∨ (M_res I k).1 = 1 ∨ (M_res I k).1 = 2 ∨ (M_res I k).1 = 3 := st_go4 _ _ _ _
theorem hv_1 {x : Int32} (h : q_b x 0 5) : x = nI x.toNatClampNeg ∧ x.toNatClampNeg < 6 := by
  obtain ⟨j, h1, h2, rfl⟩ := nI_b (a := 0) (b := 5) h (by omega)
  rw [nI_clamp (by omega)]
  exact ⟨rfl, by omega⟩
theorem hv_ok {I : gI} {k : Nat} (h : q_mo I k) : I 108 k = nI ((tt I).1 k) ∧ (tt I).1 k < 6 ∧ I 109 k = nI ((tt I).2.1 k) ∧ (tt I).2.1 k < 6 := ⟨(hv_1 h.1).1, (hv_1 h.1).2, (hv_1 h.2.1).1, (hv_1 h.2.1).2⟩
def gV (w : Nat) (b : Bool) (st p q : Int32) : Int32 := if w = 0 then 1 else if w = 1 then (if st = (if b = true then 1 else 2) then 1 else 0) else if w = 2 then (if st = 3 then 1 else 0) else if w = 3 then (if st = (if b = true then 2 else 1) then 1 else 0) else if w = 4 then (if b = true then p else q) else (if b = true then q else p)
def t_in (t : gT) (k v : Nat) : Bool := decide (t.1 k = v ∨ t.2.1 k = v)
def t_ot (t : gT) (k v : Nat) : Nat := if t.1 k = v then t.2.1 k else t.1 k
def t_g (t : gT) (w v k : Nat) : Int32 := gV w (decide (t.1 k = v)) (t.2.2.1 k).1 (t.2.2.1 k).2.1 (t.2.2.1 k).2.2.1
def t_D (t : gT) (al : Nat → Bool) (w v k : Nat) : Int32 := if t_in t k v = true ∧ al (t_ot t k v) = true then t_g t w v k else 0
def t_S (t : gT) (m w v : Nat) : Int32 := s_sum (t_D t (fun _ => true) w v) m
/-! the model's sums -/
theorem b_if {p : Prop} [Decidable p] : ((if p then true else false) = true) = p := by
  by_cases h : p
  · simp [h]
  · simp [h]
theorem s113 (k6 : Int32 → Int32 → Int32 → Int32 → Int32 → gI → Option (Int32 × gI)) (x1 x2 x4 x5 st : Int32) (b : Bool) (I : gI) {w : Nat} (hw : w < 6) : f_X10_sumOf_113 k6 x1 x2 (nI w) x4 x5 st b I = k6 x1 x2 (nI w) (x4 + gV w b st (I 87 39) (I 87 40)) (x5 + 1) I := by
  unfold f_X10_sumOf_113 f_X10_sumOf_127 f_X10_sumOf_135 f_X10_sumOf_149 f_X10_sumOf_157 f_X10_sumOf_175 f_X10_sumOf_193 f_X10_sumOf_234 f_X10_sumOf_265 f_X10_sumOf_268
  simp only [b_m, b_if]
  match w, hw with
  | 0, _ => rfl
  | 1, _ => cases b <;> rfl
  | 2, _ => cases b <;> rfl
  | 3, _ => cases b <;> rfl
  | 4, _ => cases b <;> rfl
  | 5, _ => cases b <;> rfl
  | w + 6, h => exact absurd h (by omega)
theorem s72 (k6 : Int32 → Int32 → Int32 → Int32 → Int32 → gI → Option (Int32 × gI)) (x1 mask x4 st : Int32) {k o w : Nat} (hk : k < 24) (ho : o < 6) (hw : w < 6) {I I2 : gI} (hst : f_X10_stateOf (nI k) I = some (st, I2)) : f_X10_sumOf_72 k6 x1 mask (nI w) x4 (nI k) true (nI o) I = if tb mask o = true then k6 x1 mask (nI w) (x4 + gV w (if I2 108 k = x1 then true else false) st (I2 87 39) (I2 87 40)) (nI k + 1) I2 else k6 x1 mask (nI w) x4 (nI k + 1) I := by
  unfold f_X10_sumOf_72
  rw [if_neg (by decide), hst]
  simp only [Option.bind_some]
  rw [gin_nI hk (by omega), nI_clamp (by omega), if_pos (c := true = true) rfl, s113 _ _ _ _ _ _ _ _ hw]
  by_cases c : tb mask o = true
  · rw [if_pos c, if_pos ((tb_t1 mask (by omega)).mpr c)]
  · rw [if_neg c, if_neg (fun q => c ((tb_t1 mask (by omega)).mp q))]
    rfl
theorem sum_m {I : gI} {m w v : Nat} (mask : Int32) (h32 : I 87 32 = nI m) (hm : m ≤ 24) (h6 : ∀ k, k < m → q_mo I k) (hw : w < 6) (hv : v < 6) : ∃ I', f_X10_sumOf (nI v) mask (nI w) I = some (s_sum (t_D (tt I) (tb mask) w v) m, I') ∧ sB I I' := by
  unfold f_X10_sumOf
  refine lpg (P := fun fu k => ∀ I1, sB I I1 → ∃ I2, f_X10_sumOf_6 fu (nI v) mask (nI w) (s_sum (t_D (tt I) (tb mask) w v) k) (nI k) I1 = some (s_sum (t_D (tt I) (tb mask) w v) m, I2) ∧ sB I I2) (n := m) (by omega) (fun fu I1 s1 => ?_) (fun fu k hk ih I1 s1 => ?_) 0 (by omega) I sB.rfl
  · refine ⟨I1, ?_, s1⟩
    rw [f_X10_sumOf_6, s1 87 32 (by omega), h32, if_pos (nI_le (Nat.le_refl _) (by omega))]
  · obtain ⟨e1, l1, e2, l2⟩ := hv_ok (h6 k hk)
    have i107 : I1 108 k = nI ((tt I).1 k) := by rw [s1 108 k (by omega)]; exact e1
    have i108 : I1 109 k = nI ((tt I).2.1 k) := by rw [s1 109 k (by omega)]; exact e2
    obtain ⟨I2, d1, d2, d3, d4, -⟩ := state_m (I := I1) (k := k) (by omega) ((h6 k hk).cg fun a ha => s1 a k (by omega))
    rw [M_res_sB s1] at d1 d3 d4
    have j107 : I2 108 k = nI ((tt I).1 k) := by rw [d2 108 k (by omega)]; exact i107
    have gk : g_in (nI k) 24 = true := gin_nI (by omega) (by omega)
    have ck : (nI k).toNatClampNeg = k := nI_clamp (by omega)
    rw [f_X10_sumOf_6, s1 87 32 (by omega), h32, if_neg (nI_ge hk (by omega))]
    unfold f_X10_sumOf_37 f_X10_sumOf_42
    simp only [gk, ck, if_true, i107, i108]
    have ih1 := ih I1 s1
    have ih2 := ih I2 (s1.tr d2)
    rw [s_sum_s] at ih1 ih2
    by_cases c1 : (tt I).1 k = v
    · have c1' : nI ((tt I).1 k) = nI v := by rw [c1]
      simp only [if_pos c1']
      rw [s72 _ _ _ _ _ (by omega) l2 hw d1, j107, if_pos c1', d3, d4, nI_1]
      have ei : t_in (tt I) k v = true := decide_eq_true (Or.inl c1)
      have eo : t_ot (tt I) k v = (tt I).2.1 k := if_pos c1
      have eg : t_g (tt I) w v k = gV w true (M_res I k).1 (M_res I k).2.1 (M_res I k).2.2.1 := by
        unfold t_g
        rw [decide_eq_true c1]
        rfl
      by_cases c2 : tb mask ((tt I).2.1 k) = true
      · rw [if_pos c2]
        rw [show t_D (tt I) (tb mask) w v k = t_g (tt I) w v k from if_pos ⟨ei, by rw [eo]; exact c2⟩, eg] at ih2
        exact ih2
      · rw [if_neg c2]
        rw [show t_D (tt I) (tb mask) w v k = 0 from if_neg (fun q => c2 (by rw [← eo]; exact q.2)), Int32.add_zero] at ih1
        exact ih1
    · have c1' : ¬ nI ((tt I).1 k) = nI v := fun q => c1 ((nI_eq (by omega) (by omega)).mp q)
      simp only [if_neg c1']
      by_cases c3 : (tt I).2.1 k = v
      · have c3' : nI ((tt I).2.1 k) = nI v := by rw [c3]
        simp only [if_pos c3']
        rw [s72 _ _ _ _ _ (by omega) l1 hw d1, j107, if_neg c1', d3, d4, nI_1]
        have ei : t_in (tt I) k v = true := decide_eq_true (Or.inr c3)
        have eo : t_ot (tt I) k v = (tt I).1 k := if_neg c1
        have eg : t_g (tt I) w v k = gV w false (M_res I k).1 (M_res I k).2.1 (M_res I k).2.2.1 := by
          unfold t_g
          rw [decide_eq_false c1]
          rfl
        by_cases c2 : tb mask ((tt I).1 k) = true
        · rw [if_pos c2]
          rw [show t_D (tt I) (tb mask) w v k = t_g (tt I) w v k from if_pos ⟨ei, by rw [eo]; exact c2⟩, eg] at ih2
          exact ih2
        · rw [if_neg c2]
          rw [show t_D (tt I) (tb mask) w v k = 0 from if_neg (fun q => c2 (by rw [← eo]; exact q.2)), Int32.add_zero] at ih1
          exact ih1
      · have c3' : ¬ nI ((tt I).2.1 k) = nI v := fun q => c3 ((nI_eq (by omega) (by omega)).mp q)
        simp only [if_neg c3']
        unfold f_X10_sumOf_72 f_X10_sumOf_268
        rw [if_pos rfl, nI_1]
        rw [show t_D (tt I) (tb mask) w v k = 0 from if_neg (fun q => absurd (of_decide_eq_true q.1) (by omega)), Int32.add_zero] at ih1
        exact ih1
theorem t_D_63 {t : gT} {w v k : Nat} (h1 : t.1 k < 6) (h2 : t.2.1 k < 6) : t_D t (tb 63) w v k = t_D t (fun _ => true) w v k := by
  unfold t_D
  have : t_ot t k v < 6 := by
    unfold t_ot
    split <;> omega
  rw [tb_63 _ this]
theorem sum_63 {I : gI} {m w v : Nat} (h32 : I 87 32 = nI m) (hm : m ≤ 24) (h6 : ∀ k, k < m → q_mo I k) (hw : w < 6) (hv : v < 6) : ∃ I', f_X10_sumOf (nI v) 63 (nI w) I = some (t_S (tt I) m w v, I') ∧ sB I I' := by
  obtain ⟨I', h1, h2⟩ := sum_m 63 h32 hm h6 hw hv
  refine ⟨I', ?_, h2⟩
  rw [h1, s_sum_cg (g := t_D (tt I) (fun _ => true) w v) fun k hk => t_D_63 (hv_ok (h6 k hk)).2.1 (hv_ok (h6 k hk)).2.2.2]
  rfl
theorem tt_sB {I I' : gI} (h : sB I I') : tt I' = tt I := tt_sm (m := 0) h.sm
theorem mo_sB {I I' : gI} {m : Nat} (h6 : ∀ k, k < m → q_mo I k) (s : sB I I') : ∀ k, k < m → q_mo I' k := fun k hk => (h6 k hk).cg fun a ha => s a k (by omega)
theorem tab_m {I : gI} {m v : Nat} (mask : Int32) (h32 : I 87 32 = nI m) (hm : m ≤ 24) (h6 : ∀ k, k < m → q_mo I k) (hv : v < 6) : ∃ I', f_X10_tableOf (nI v) mask I = some (2 * s_sum (t_D (tt I) (tb mask) 1 v) m + s_sum (t_D (tt I) (tb mask) 2 v) m, I') ∧ sB I I' := by
  obtain ⟨I1, h1, h2⟩ := sum_m (w := 1) mask h32 hm h6 (by omega) hv
  obtain ⟨I2, h3, h4⟩ := sum_m (I := I1) (m := m) (w := 2) mask (by rw [h2 87 32 (by omega)]; exact h32) hm (mo_sB h6 h2) (by omega) hv
  rw [tt_sB h2] at h3
  refine ⟨I2, ?_, h2.tr h4⟩
  unfold f_X10_tableOf
  rw [show (1 : Int32) = nI 1 from rfl, h1, Option.bind_some, show (2 : Int32) = nI 2 from rfl, h3]
  rfl
theorem tab_63 {I : gI} {m v : Nat} (h32 : I 87 32 = nI m) (hm : m ≤ 24) (h6 : ∀ k, k < m → q_mo I k) (hv : v < 6) : ∃ I', f_X10_tableOf (nI v) 63 I = some (2 * t_S (tt I) m 1 v + t_S (tt I) m 2 v, I') ∧ sB I I' := by
  obtain ⟨I', h1, h2⟩ := tab_m 63 h32 hm h6 hv
  refine ⟨I', ?_, h2⟩
  rw [h1, s_sum_cg (g := t_D (tt I) (fun _ => true) 1 v) fun k hk => t_D_63 (hv_ok (h6 k hk)).2.1 (hv_ok (h6 k hk)).2.2.2, s_sum_cg (g := t_D (tt I) (fun _ => true) 2 v) fun k hk => t_D_63 (hv_ok (h6 k hk)).2.1 (hv_ok (h6 k hk)).2.2.2]
  rfl
/-! the class's sums -/
theorem add_c {I : gI} {a h : Nat} {x3 x4 : Int32} {b : Bool} (ha : a < 6) (hh : 117 ≤ h) (hb : (nI a = I h 0) = (b = true)) (h4 : I h 9 = 0 ∨ I h 9 = 1 ∨ I h 9 = 2 ∨ I h 9 = 3) : ∃ I', f_X0_addTo (nI a) h x3 x4 I = some I' ∧ (∀ c j, ¬ (70 ≤ c ∧ c ≤ 75) → I' c j = I c j) ∧ ∀ w, w < 6 → ∀ j, I' (70 + w) j = I (70 + w) j + (if j = a then gV w b (I h 9) (if b = true then x3 else x4) (if b = true then x4 else x3) else 0) := by
  have g0 : g_in 0 6 = true := by decide
  have g1 : g_in 1 6 = true := by decide
  have g2 : g_in 2 6 = true := by decide
  have g3 : g_in 3 6 = true := by decide
  have g4 : g_in 4 6 = true := by decide
  have g5 : g_in 5 6 = true := by decide
  have n0 : Int32.toNatClampNeg 0 = 0 := by decide
  have n1 : Int32.toNatClampNeg 1 = 1 := by decide
  have n2 : Int32.toNatClampNeg 2 = 2 := by decide
  have n3 : Int32.toNatClampNeg 3 = 3 := by decide
  have n4 : Int32.toNatClampNeg 4 = 4 := by decide
  have n5 : Int32.toNatClampNeg 5 = 5 := by decide
  have ga : g_in (nI a) 6 = true := gin_nI ha (by omega)
  have ca : (nI a).toNatClampNeg = a := nI_clamp (by omega)
  obtain ⟨I3, eI3⟩ : ∃ I3, I3 = g_u (g_u (g_u I 70 a (I 70 a + 1)) 74 a (I 74 a + x3)) 75 a (I 75 a + x4) := ⟨_, rfl⟩
  have hT : f_X4_tableFor h (nI a) I3 = if I h 9 = 3 then 1 else if I h 9 = (if b = true then 1 else 2) then 2 else 0 := by
    unfold f_X4_tableFor f_X4_tableFor_27
    rw [eI3]
    simp (disch := omega) only [u_na]
    simp only [hb]
  have h9 : I3 h 9 = I h 9 := by
    rw [eI3]
    simp (disch := omega) only [u_na]
  have e : f_X0_addTo (nI a) h x3 x4 I = if I3 h 9 = 0 then some I3 else if f_X4_tableFor h (nI a) I3 = 2 then f_X0_addTo_76 (nI a) 1 I3 else if f_X4_tableFor h (nI a) I3 = 1 then f_X0_addTo_76 (nI a) 2 I3 else f_X0_addTo_76 (nI a) 3 I3 := by
    unfold f_X0_addTo
    simp only [g0, g4, g5, n0, n4, n5, ga, ca, if_true, Nat.add_zero, Nat.reduceAdd]
    rw [show (g_u I 70 a (I 70 a + 1)) 74 a = I 74 a from u_na (by omega), show (g_u (g_u I 70 a (I 70 a + 1)) 74 a (I 74 a + x3)) 75 a = I 75 a by rw [u_na (by omega), u_na (by omega)], ← eI3]
  have e76 : ∀ (c : Int32) (cn : Nat), g_in c 6 = true → c.toNatClampNeg = cn → f_X0_addTo_76 (nI a) c I3 = some (g_u I3 (70 + cn) a (I3 (70 + cn) a + 1)) := by
    intro c cn q1 q2
    unfold f_X0_addTo_76
    simp only [q1, q2, ga, ca, if_true]
  have hr : ∀ c j, I3 c j = if c = 70 ∧ j = a then I 70 a + 1 else if c = 74 ∧ j = a then I 74 a + x3 else if c = 75 ∧ j = a then I 75 a + x4 else I c j := by
    intro c j
    rw [eI3, u_ap, u_ap, u_ap]
    by_cases q : j = a
    · by_cases q5 : c = 75
      · simp [q5, q]
      · by_cases q4 : c = 74
        · simp [q4, q]
        · simp [q5, q4, q]
    · simp [q]
  rw [e, h9, hT]
  rcases h4 with z | z | z | z
  · rw [z]
    refine ⟨I3, rfl, fun c j q => ?_, fun w hw j => ?_⟩
    · rw [hr, if_neg (by omega), if_neg (by omega), if_neg (by omega)]
    · rw [hr]
      by_cases ej : j = a
      · subst ej
        match w, hw with
        | 0, _ => simp [gV]
        | 1, _ => cases b <;> simp [gV]
        | 2, _ => simp [gV]
        | 3, _ => cases b <;> simp [gV]
        | 4, _ => cases b <;> simp [gV]
        | 5, _ => cases b <;> simp [gV]
        | w + 6, q => exact absurd q (by omega)
      · simp [ej]
  all_goals
    rw [z]
    cases b
    all_goals
      simp only [Bool.false_eq_true, if_false, if_true]
      first
        | rw [if_neg (by decide), if_neg (by decide), if_pos (by decide), e76 2 2 g2 n2]
        | rw [if_neg (by decide), if_pos (by decide), e76 1 1 g1 n1]
        | rw [if_neg (by decide), if_neg (by decide), if_neg (by decide), e76 3 3 g3 n3]
        | rw [e76 2 2 g2 n2]
      refine ⟨_, rfl, fun c j q => ?_, fun w hw j => ?_⟩
      · rw [u_na (by omega), hr, if_neg (by omega), if_neg (by omega), if_neg (by omega)]
      · by_cases ej : j = a
        · subst ej
          match w, hw with
          | 0, _ => rw [u_na (by omega), hr]; simp [gV]
          | 1, _ => first | (rw [u_na (by omega), hr]; simp [gV]; done) | (rw [u_eq rfl rfl, hr]; simp [gV]; done)
          | 2, _ => first | (rw [u_na (by omega), hr]; simp [gV]; done) | (rw [u_eq rfl rfl, hr]; simp [gV]; done)
          | 3, _ => first | (rw [u_na (by omega), hr]; simp [gV]; done) | (rw [u_eq rfl rfl, hr]; simp [gV]; done)
          | 4, _ => rw [u_na (by omega), hr]; simp [gV]
          | 5, _ => rw [u_na (by omega), hr]; simp [gV]
          | w + 6, q => exact absurd q (by omega)
        · rw [u_nk ej, hr]
          simp [ej]
