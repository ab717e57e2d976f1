/-! reach: the class's start, the model's ways, the call -/
def T0 (t : gT) (m u : Nat) : Int32 := 2 * t_S t m 1 u + t_S t m 2 u
theorem tabs_c {m : Nat} {t : gT} {I : gI} (x1 : Int32) (hS : ∀ w, w < 6 → ∀ v, v < 6 → I (70 + w) v = t_S t m w v) : ∃ I', f_X0_tryAllWays m x1 I = ((f_X0_noteOpenOnes m I').bind fun r2_ => f_X0_tryAllWays_33 m g_fuel x1 1 0 r2_) ∧ (∀ b k, b ≠ 82 → I' b k = I b k) ∧ ∀ u, u < 6 → I' 82 u = T0 t m u := by
  unfold f_X0_tryAllWays
  refine lpg (P := fun fu k => ∀ I1, (∀ b k, b ≠ 82 → I1 b k = I b k) → (∀ u, u < k → I1 82 u = T0 t m u) → ∃ I', f_X0_tryAllWays_2 m fu x1 (nI k) I1 = ((f_X0_noteOpenOnes m I').bind fun r2_ => f_X0_tryAllWays_33 m g_fuel x1 1 0 r2_) ∧ (∀ b k, b ≠ 82 → I' b k = I b k) ∧ ∀ u, u < 6 → I' 82 u = T0 t m u) (n := 6) (by omega) (fun fu I1 a1 a2 => ?_) (fun fu k hk ih I1 a1 a2 => ?_) 0 (by omega) I (fun _ _ _ => rfl) (fun u hu => absurd hu (by omega))
  · refine ⟨I1, ?_, a1, a2⟩
    rw [f_X0_tryAllWays_2, if_pos (show (6 : Int32) ≤ nI 6 by decide)]
  · rw [f_X0_tryAllWays_2, if_neg (show ¬ (6 : Int32) ≤ nI k from nI_ge (b := 6) hk (by omega)), table_c (t := t) (m := m) hk (fun w hw v hv => by rw [a1 _ _ (by omega)]; exact hS w hw v hv), Option.bind_some, gin_nI hk (by omega), if_pos rfl, nI_clamp (by omega), nI_1]
    refine ih _ (fun b k q => by rw [u_na q]; exact a1 b k q) (fun u hu => ?_)
    by_cases e : u = k
    · subst e
      rw [u_eq rfl rfl]
      rfl
    · rw [u_nk e]
      exact a2 u (by omega)
def f_opn (I I' : gI) : Prop := ∀ b k, b ≠ 84 → ¬ (b = 65 ∧ k = 10) → I' b k = I b k
theorem opn_c {m : Nat} {I I1 : gI} (hm : m ≤ 24) (hr : rd m I I1) (hq : (ops (tt I) m).length ≤ 6) : ∃ I2, f_X0_noteOpenOnes m I1 = some I2 ∧ f_opn I1 I2 ∧ I2 65 10 = nI (ops (tt I) m).length ∧ ∀ j, j < (ops (tt I) m).length → I2 84 j = nI ((ops (tt I) m).getD j 0) := by
  refine lpg (P := fun fu k => ∀ I2, f_opn I1 I2 → I2 65 10 = nI (ops (tt I) k).length → (∀ j, j < (ops (tt I) k).length → I2 84 j = nI ((ops (tt I) k).getD j 0)) → ∃ I3, f_X0_noteOpenOnes_7 m fu (nI k) I2 = some I3 ∧ f_opn I1 I3 ∧ I3 65 10 = nI (ops (tt I) m).length ∧ ∀ j, j < (ops (tt I) m).length → I3 84 j = nI ((ops (tt I) m).getD j 0)) (n := m) (by omega) (fun fu I2 a1 a2 a3 => ?_) (fun fu k hk ih I2 a1 a2 a3 => ?_) 0 (by omega) (g_u I1 65 10 0) (fun b k q1 q2 => by rw [u_ap, if_neg q2]) (u_eq rfl rfl) (fun j hj => absurd hj (by simp [ops]))
  · refine ⟨I2, ?_, a1, a2, a3⟩
    rw [f_X0_noteOpenOnes_7, a1 65 1 (by omega) (by omega), hr.1, if_pos (nI_le (Nat.le_refl _) (by omega))]
  · have h9 : I2 (117 + 2 * k) 9 = (M_res I k).1 := by rw [a1 _ _ (by omega) (by omega)]; exact (hr.2 k hk).2.2.1
    have hmono := ops_mono (t := tt I) (j := k + 1) m (by omega)
    rw [f_X0_noteOpenOnes_7, a1 65 1 (by omega) (by omega), hr.1, if_neg (nI_ge hk (by omega)), gin_nI (by omega) (by omega), if_pos rfl, nI_clamp (by omega), if_pos hk, h9]
    unfold f_X0_noteOpenOnes_56
    rw [nI_1]
    by_cases c : (M_res I k).1 = 0
    · have eo : ops (tt I) (k + 1) = ops (tt I) k ++ [k] := if_pos c
      have el : (ops (tt I) (k + 1)).length = (ops (tt I) k).length + 1 := by rw [eo, List.length_append, List.length_singleton]
      have hl : (ops (tt I) k).length < 6 := by omega
      rw [if_pos c, a2, if_neg (show ¬ (6 : Int32) ≤ nI (ops (tt I) k).length from nI_ge (b := 6) hl (by omega)), gin_nI hl (by omega), if_pos rfl, nI_clamp (by omega), u_na (by omega), a2, nI_1]
      refine ih _ (fun b j q1 q2 => by rw [u_ap, if_neg q2, u_na q1]; exact a1 b j q1 q2) (by rw [u_eq rfl rfl, el]) (fun j hj => ?_)
      rw [u_na (by omega), eo]
      rw [el] at hj
      by_cases e : j = (ops (tt I) k).length
      · rw [e, u_eq rfl rfl, gd_e]
      · rw [u_nk e, gd_l (by omega)]
        exact a3 j (by omega)
    · have eo : ops (tt I) (k + 1) = ops (tt I) k := if_neg c
      rw [if_neg c]
      have := ih I2 a1 (by rw [eo]; exact a2) (by rw [eo]; exact a3)
      exact this
def cc (n : Nat) : Int32 := if n = 0 then 2 else if n = 1 then 0 else 1
def app (h a : Nat → Nat) : Nat → Nat → Nat → (Nat → Int32) → Nat → Int32
  | 0, _, _, T => T
  | d + 1, j, y, T => app h a d (j + 1) (y / 3) (ap (h j) (a j) (cc (y % 3)) T)
theorem app_cg {h a : Nat → Nat} {q : Nat} (hh : ∀ j, j < q → h j < 6 ∧ a j < 6) : ∀ d j y (T T' : Nat → Int32), j + d = q → (∀ u, u < 6 → T u = T' u) → ∀ u, u < 6 → app h a d j y T u = app h a d j y T' u := by
  intro d
  induction d with
  | zero =>
    intro j y T T' _ e u hu
    exact e u hu
  | succ d ih =>
    intro j y T T' hj e u hu
    obtain ⟨h1, h2⟩ := hh j (by omega)
    refine ih (j + 1) (y / 3) _ _ (by omega) (fun u hu => ?_) u hu
    unfold ap
    rw [e u hu, e _ h1, e _ h2]
theorem RS_app {h a : Nat → Nat} {v : Nat} : ∀ d j (T : Nat → Int32) p, RS h a v d j T p ↔ ∃ y, y < 3 ^ d ∧ p = pl (app h a d j y T) v := by
  intro d
  induction d with
  | zero =>
    intro j T p
    exact ⟨fun q => ⟨0, by simp, q⟩, fun ⟨y, _, q⟩ => q⟩
  | succ d ih =>
    intro j T p
    have e3 : 3 ^ (d + 1) = 3 ^ d * 3 := Nat.pow_succ 3 d
    constructor
    · rintro ⟨x, hx, r⟩
      obtain ⟨y, hy, e⟩ := (ih (j + 1) _ p).mp r
      have hc : ∀ x, x < 3 → ∃ n, n < 3 ∧ cc n = nI x := by decide
      obtain ⟨n, hn, en⟩ := hc x hx
      refine ⟨3 * y + n, by omega, ?_⟩
      show p = pl (app h a d (j + 1) ((3 * y + n) / 3) (ap (h j) (a j) (cc ((3 * y + n) % 3)) T)) v
      rw [show (3 * y + n) / 3 = y by omega, show (3 * y + n) % 3 = n by omega, en]
      exact e
    · rintro ⟨y, hy, e⟩
      have hc : ∀ n, n < 3 → ∃ x, x < 3 ∧ cc n = nI x := by decide
      obtain ⟨x, hx, ex⟩ := hc (y % 3) (Nat.mod_lt _ (by omega))
      refine ⟨x, hx, (ih (j + 1) _ p).mpr ⟨y / 3, by omega, ?_⟩⟩
      rw [← ex]
      exact e
theorem s01_b {f : Nat → Int32} (h : ∀ k, f k = 0 ∨ f k = 1) : ∀ n, n < 1000 → 0 ≤ (s_sum f n).toInt ∧ (s_sum f n).toInt ≤ n := by
  intro n
  induction n with
  | zero =>
    intro _
    show 0 ≤ (0 : Int32).toInt ∧ (0 : Int32).toInt ≤ ((0 : Nat) : Int)
    exact ⟨by decide, by decide⟩
  | succ n ih =>
    intro hn
    obtain ⟨i1, i2⟩ := ih (by omega)
    rw [s_sum_s]
    have e0 : (0 : Int32).toInt = 0 := by decide
    have e1 : (1 : Int32).toInt = 1 := by decide
    rcases h n with q | q
    · rw [q, Int32.add_zero]
      omega
    · rw [q, t_add (by omega) (by omega), e1]
      omega
theorem s01_c {f : Nat → Int32} (h : ∀ k, f k = 0 ∨ f k = 1) {v : Nat} (hv : f v = 0) : ∀ n, v < n → n < 1000 → (s_sum f n).toInt < n := by
  intro n
  induction n with
  | zero => intro q; omega
  | succ n ih =>
    intro h1 h2
    have e1 : (1 : Int32).toInt = 1 := by decide
    obtain ⟨i1, i2⟩ := s01_b h n (by omega)
    rw [s_sum_s]
    by_cases e : v = n
    · rw [← e, hv, Int32.add_zero, e]
      omega
    · have := ih (by omega) (by omega)
      rcases h n with q | q
      · rw [q, Int32.add_zero]
        omega
      · rw [q, t_add (by omega) (by omega), e1]
        omega
theorem pl_b (T : Nat → Int32) {v : Nat} (hv : v < 6) : 1 ≤ pl T v ∧ pl T v ≤ 6 := by
  have h : ∀ k, (if T k ≤ T v then (0 : Int32) else 1) = 0 ∨ (if T k ≤ T v then (0 : Int32) else 1) = 1 := fun k => by
    by_cases c : T k ≤ T v
    · rw [if_pos c]
      exact Or.inl rfl
    · rw [if_neg c]
      exact Or.inr rfl
  have e1 : (1 : Int32).toInt = 1 := by decide
  have e6 : (6 : Int32).toInt = 6 := by decide
  obtain ⟨b1, b2⟩ := s01_b (f := fun u => if T u ≤ T v then 0 else 1) h 6 (by omega)
  have b3 := s01_c (f := fun u => if T u ≤ T v then 0 else 1) h (v := v) (if_pos (Int32.le_refl _)) 6 hv (by omega)
  unfold pl
  rw [Int32.le_iff_toInt_le, Int32.le_iff_toInt_le, t_add (by omega) (by omega), e1, e6]
  omega
/-! the model's ways -/
def sD (I I' : gI) : Prop := ∀ b j, ¬ (b = 87 ∧ 39 ≤ j ∧ j ≤ 41) → b ≠ 115 → b ≠ 116 → I' b j = I b j
theorem sD.sm {m : Nat} {I I' : gI} (h : sD I I') : sm m I I' := fun a k q => h a k (fun e => q (by unfold scr; omega)) (fun e => q (by unfold scr; omega)) (fun e => q (by unfold scr; omega))
theorem sD.tr {I I' I'' : gI} (h : sD I I') (h2 : sD I' I'') : sD I I'' := fun a k q1 q2 q3 => (h2 a k q1 q2 q3).trans (h a k q1 q2 q3)
theorem sB.sD {I I' : gI} (h : sB I I') : sD I I' := fun a k q _ _ => h a k q
theorem tt_sD {I I' : gI} (h : sD I I') : tt I' = tt I := tt_sm (m := 0) h.sm
theorem mo_sD {I I' : gI} {m : Nat} (h6 : ∀ k, k < m → q_mo I k) (s : sD I I') : ∀ k, k < m → q_mo I' k := fun k hk => (h6 k hk).cg fun a ha => s a k (by omega) (by omega) (by omega)
theorem opn_m {m : Nat} {I : gI} (x1 x2 x3 : Int32) (h32 : I 87 32 = nI m) (hm : m ≤ 24) (h6 : ∀ k, k < m → q_mo I k) (hq : (ops (tt I) m).length ≤ 6) : ∃ I2, f_X10_reach_49 g_fuel x1 x2 x3 0 1 0 I = f_X10_reach_101 g_fuel x1 x2 x3 (nI (3 ^ (ops (tt I) m).length)) 99 0 0 I2 ∧ sD I I2 ∧ ∀ j, j < (ops (tt I) m).length → I2 116 j = nI ((ops (tt I) m).getD j 0) := by
  refine lpg (P := fun fu k => ∀ I1, sD I I1 → (∀ j, j < (ops (tt I) k).length → I1 116 j = nI ((ops (tt I) k).getD j 0)) → ∃ I2, f_X10_reach_49 fu x1 x2 x3 (nI (ops (tt I) k).length) (nI (3 ^ (ops (tt I) k).length)) (nI k) I1 = f_X10_reach_101 g_fuel x1 x2 x3 (nI (3 ^ (ops (tt I) m).length)) 99 0 0 I2 ∧ sD I I2 ∧ ∀ j, j < (ops (tt I) m).length → I2 116 j = nI ((ops (tt I) m).getD j 0)) (n := m) (by omega) (fun fu I1 a1 a2 => ?_) (fun fu k hk ih I1 a1 a2 => ?_) 0 (by omega) I (fun _ _ _ _ _ => rfl) (fun j hj => absurd hj (by simp [ops]))
  · refine ⟨I1, ?_, a1, a2⟩
    rw [f_X10_reach_49, a1 87 32 (by omega) (by omega) (by omega), h32, if_pos (nI_le (Nat.le_refl _) (by omega))]
  · have hmono := ops_mono (t := tt I) (j := k + 1) m (by omega)
    obtain ⟨I2, e1, e2, -⟩ := state_m (I := I1) (k := k) (by omega) (mo_sD h6 a1 k hk)
    rw [M_res_sm (m := 0) a1.sm] at e1
    have e2' : sB I1 I2 := e2
    rw [f_X10_reach_49, a1 87 32 (by omega) (by omega) (by omega), h32, if_neg (nI_ge hk (by omega)), e1, Option.bind_some]
    try dsimp only
    unfold f_X10_reach_85
    simp only [nI_1]
    by_cases c : (M_res I k).1 = 0
    · have eo : ops (tt I) (k + 1) = ops (tt I) k ++ [k] := if_pos c
      have el : (ops (tt I) (k + 1)).length = (ops (tt I) k).length + 1 := by rw [eo, List.length_append, List.length_singleton]
      have hl : (ops (tt I) k).length < 6 := by omega
      have e3 : nI (3 ^ (ops (tt I) k).length) * 3 = nI (3 ^ (ops (tt I) (k + 1)).length) := by
        rw [el]
        exact nI_mul _ 3
      rw [if_pos c, gin_nI hl (by omega), if_pos rfl, nI_clamp (by omega), e3, ← el]
      refine ih _ (fun b j q1 q2 q3 => by rw [u_na q3, e2 b j q1]; exact a1 b j q1 q2 q3) (fun j hj => ?_)
      rw [el] at hj
      rw [eo]
      by_cases e : j = (ops (tt I) k).length
      · rw [e, u_eq rfl rfl, gd_e]
      · rw [u_nk e, gd_l (by omega), e2 116 j (by omega)]
        exact a2 j (by omega)
    · have eo : ops (tt I) (k + 1) = ops (tt I) k := if_neg c
      rw [if_neg c]
      have := ih I2 (a1.tr e2'.sD) (by rw [eo]; exact fun j hj => by rw [e2 116 j (by omega)]; exact a2 j hj)
      rw [eo] at this
      exact this
theorem cc_v : ∀ n, n < 3 → (if nI n = 0 then (2 : Int32) else (if nI n = 1 then 0 else 1)) = cc n ∧ (if nI n = 0 then (0 : Int32) else (if nI n = 1 then 2 else 1)) = 2 - cc n := by decide +kernel
def rdM (q : Nat) (L h a : Nat → Nat) (I : gI) : Prop := q ≤ 6 ∧ ∀ j, j < q → I 116 j = nI (L j) ∧ L j < 24 ∧ I 108 (L j) = nI (h j) ∧ I 109 (L j) = nI (a j) ∧ h j < 6 ∧ a j < 6 ∧ h j ≠ a j
theorem ways_m {q : Nat} {L h a : Nat → Nat} (k101 : Int32 → Int32 → Int32 → Int32 → Int32 → Int32 → Int32 → gI → Option (Int32 × gI)) (x1 x2 x5 x6 x7 x8 : Int32) : ∀ (d j fu y : Nat) (I1 : gI), j + d = q → d < fu → y < 729 → rdM q L h a I1 → ∃ I2, f_X10_reach_146 k101 fu x1 x2 (nI q) x5 x6 x7 x8 (nI y) (nI j) I1 = f_X10_reach_256 k101 g_fuel x1 x2 (nI q) x5 x6 x7 x8 1 0 I2 ∧ (∀ b k, b ≠ 115 → I2 b k = I1 b k) ∧ I2 115 = app h a d j y (I1 115) := by
  intro d
  induction d with
  | zero =>
    intro j fu y I1 h1 h2 h3 hr
    obtain ⟨fu, rfl⟩ : ∃ f, fu = f + 1 := ⟨fu - 1, by omega⟩
    have hj : j = q := by omega
    subst hj
    refine ⟨I1, ?_, fun _ _ _ => rfl, rfl⟩
    rw [f_X10_reach_146, if_pos (nI_le (Nat.le_refl _) (by have := hr.1; omega))]
  | succ d ih =>
    intro j fu y I1 h1 h2 h3 hr
    obtain ⟨fu, rfl⟩ : ∃ f, fu = f + 1 := ⟨fu - 1, by omega⟩
    obtain ⟨r1, r2⟩ := id hr
    obtain ⟨s1, s2, s3, s4, s5, s6, s7⟩ := r2 j (by omega)
    obtain ⟨d1, d2⟩ := d729 y h3
    have hn : y % 3 < 3 := Nat.mod_lt _ (by omega)
    obtain ⟨v1, v2⟩ := cc_v (y % 3) hn
    have gh : g_in (nI (h j)) 6 = true := gin_nI s5 (by omega)
    have ga : g_in (nI (a j)) 6 = true := gin_nI s6 (by omega)
    have ch' : (nI (h j)).toNatClampNeg = h j := nI_clamp (by omega)
    have ca' : (nI (a j)).toNatClampNeg = a j := nI_clamp (by omega)
    have gL : g_in (nI (L j)) 24 = true := gin_nI s2 (by omega)
    have cL : (nI (L j)).toNatClampNeg = L j := nI_clamp (by omega)
    have gj : g_in (nI j) 6 = true := gin_nI (by omega) (by omega)
    have cj : (nI j).toNatClampNeg = j := nI_clamp (by omega)
    rw [f_X10_reach_146, if_neg (nI_ge (show j < q by omega) (by omega)), d2, d1, v1]
    unfold f_X10_reach_202 f_X10_reach_242
    have n1 : (116 : Nat) ≠ 115 := by omega
    have n2 : (109 : Nat) ≠ 115 := by omega
    simp only [gj, cj, s1, gL, cL, s3, gh, ch', u_na n1, u_na n2, s4, ga, ca', if_true, nI_1]
    rw [show (g_u I1 115 (h j) (I1 115 (h j) + cc (y % 3))) 115 (a j) = I1 115 (a j) from u_nk (fun z => s7 z.symm)]
    obtain ⟨I3, eI3⟩ : ∃ I3, I3 = g_u (g_u I1 115 (h j) (I1 115 (h j) + cc (y % 3))) 115 (a j) (I1 115 (a j) + (2 - cc (y % 3))) := ⟨_, rfl⟩
    have f3 : ∀ b k, b ≠ 115 → I3 b k = I1 b k := fun b k z => by rw [eI3, u_na z, u_na z]
    have t3 : I3 115 = ap (h j) (a j) (cc (y % 3)) (I1 115) := by
      funext u
      rw [eI3, u_ap, u_ap]
      unfold ap
      by_cases q1 : u = a j
      · simp [q1]
      · by_cases q2 : u = h j
        · simp [q2, s7]
        · simp [q1, q2]
    obtain ⟨I4, b1, b2, b3⟩ := ih (j + 1) fu (y / 3) I3 (by omega) (by omega) (by omega) ⟨r1, fun i hi => by
      obtain ⟨w1, w2, w3, w4, w5⟩ := r2 i hi
      exact ⟨by rw [f3 _ _ (by omega)]; exact w1, w2, by rw [f3 _ _ (by omega)]; exact w3, by rw [f3 _ _ (by omega)]; exact w4, w5⟩⟩
    refine ⟨I4, ?_, fun b k z => by rw [b2 b k z, f3 b k z], by rw [b3, t3]; rfl⟩
    rw [← b1, eI3, ← v2]
    by_cases z0 : nI (y % 3) = 0
    · simp only [if_pos z0]
    · by_cases z1 : nI (y % 3) = 1
      · simp only [if_neg z0, if_pos z1]
      · simp only [if_neg z0, if_neg z1]
theorem one_m {v : Nat} (hv : v < 6) (k101 : Int32 → Int32 → Int32 → Int32 → Int32 → Int32 → Int32 → gI → Option (Int32 × gI)) (x2 x3 x5 x6 x7 x8 : Int32) (I : gI) : f_X10_reach_256 k101 g_fuel (nI v) x2 x3 x5 x6 x7 x8 1 0 I = k101 (nI v) x2 x3 x5 (if x6 ≤ pl (I 115) v then x6 else pl (I 115) v) (if pl (I 115) v ≤ x7 then x7 else pl (I 115) v) (x8 + 1) I := by
  have key := lpg (P := fun fu u => f_X10_reach_256 k101 fu (nI v) x2 x3 x5 x6 x7 x8 (1 + s_sum (fun u => if I 115 u ≤ I 115 v then 0 else 1) u) (nI u) I = k101 (nI v) x2 x3 x5 (if x6 ≤ pl (I 115) v then x6 else pl (I 115) v) (if pl (I 115) v ≤ x7 then x7 else pl (I 115) v) (x8 + 1) I) (n := 6) (by omega) (fun fu => ?_) (fun fu u hu ih => ?_) 0 (by omega)
  · rw [show 1 + s_sum (fun u => if I 115 u ≤ I 115 v then 0 else 1) 0 = (1 : Int32) from Int32.add_zero 1] at key
    exact key
  · rw [f_X10_reach_256, if_pos (show (6 : Int32) ≤ nI 6 by decide)]
    rfl
  · rw [f_X10_reach_256, if_neg (show ¬ (6 : Int32) ≤ nI u from nI_ge (b := 6) hu (by omega)), gin_nI hu (by omega), gin_nI hv (by omega), if_pos rfl, if_pos rfl, nI_clamp (by omega), nI_clamp (by omega)]
    unfold f_X10_reach_286
    rw [b_m, nI_1, Int32.add_assoc]
    rw [s_sum_s] at ih
    by_cases c : I 115 u ≤ I 115 v
    · rw [if_pos c] at ih ⊢
      exact ih
    · rw [if_neg c] at ih ⊢
      exact ih
theorem MM.two {lo hi p : Int32} : MM (fun q => q = p) lo hi (if lo ≤ p then lo else p) (if p ≤ hi then hi else p) := by
  have e1 : (if lo ≤ p then lo else p) = if p < lo then p else lo := by
    by_cases c : lo ≤ p
    · rw [if_pos c, if_neg (Int32.not_lt.mpr c)]
    · rw [if_neg c, if_pos (Int32.not_le.mp c)]
  have e2 : (if p ≤ hi then hi else p) = if hi < p then p else hi := by
    by_cases c : p ≤ hi
    · rw [if_pos c, if_neg (Int32.not_lt.mpr c)]
    · rw [if_neg c, if_pos (Int32.not_le.mp c)]
  rw [e1, e2]
  exact MM.one
theorem tabs_m {I : gI} {m : Nat} (k101 : Int32 → Int32 → Int32 → Int32 → Int32 → Int32 → Int32 → gI → Option (Int32 × gI)) (x1 x2 x3 x5 x6 x7 x8 : Int32) (h32 : I 87 32 = nI m) (hm : m ≤ 24) (h6 : ∀ k, k < m → q_mo I k) : ∃ I', f_X10_reach_111 k101 g_fuel x1 x2 x3 x5 x6 x7 x8 0 I = f_X10_reach_146 k101 g_fuel x1 x2 x3 x5 x6 x7 x8 x8 0 I' ∧ (∀ b j, ¬ (b = 87 ∧ 39 ≤ j ∧ j ≤ 41) → b ≠ 115 → I' b j = I b j) ∧ ∀ u, u < 6 → I' 115 u = T0 (tt I) m u := by
  refine lpg (P := fun fu k => ∀ I1, (∀ b j, ¬ (b = 87 ∧ 39 ≤ j ∧ j ≤ 41) → b ≠ 115 → I1 b j = I b j) → (∀ u, u < k → I1 115 u = T0 (tt I) m u) → ∃ I', f_X10_reach_111 k101 fu x1 x2 x3 x5 x6 x7 x8 (nI k) I1 = f_X10_reach_146 k101 g_fuel x1 x2 x3 x5 x6 x7 x8 x8 0 I' ∧ (∀ b j, ¬ (b = 87 ∧ 39 ≤ j ∧ j ≤ 41) → b ≠ 115 → I' b j = I b j) ∧ ∀ u, u < 6 → I' 115 u = T0 (tt I) m u) (n := 6) (by omega) (fun fu I1 a1 a2 => ?_) (fun fu k hk ih I1 a1 a2 => ?_) 0 (by omega) I (fun _ _ _ _ => rfl) (fun u hu => absurd hu (by omega))
  · refine ⟨I1, ?_, a1, a2⟩
    rw [f_X10_reach_111, if_pos (show (6 : Int32) ≤ nI 6 by decide)]
  · have sd : sD I I1 := fun b j q1 q2 _ => a1 b j q1 q2
    obtain ⟨I2, b1, b2⟩ := tab_63 (I := I1) (m := m) (v := k) (by rw [a1 87 32 (by omega) (by omega)]; exact h32) hm (mo_sD h6 sd) hk
    rw [tt_sD sd] at b1
    rw [f_X10_reach_111, if_neg (show ¬ (6 : Int32) ≤ nI k from nI_ge (b := 6) hk (by omega)), b1, Option.bind_some, gin_nI hk (by omega), if_pos rfl, nI_clamp (by omega), nI_1]
    try dsimp only
    refine ih _ (fun b j q1 q2 => by rw [u_na q2, b2 b j q1]; exact a1 b j q1 q2) (fun u hu => ?_)
    by_cases e : u = k
    · subst e
      rw [u_eq rfl rfl]
      rfl
    · rw [u_nk e, b2 115 u (by omega)]
      exact a2 u (by omega)
theorem all_w {I : gI} {m q v : Nat} {L h a : Nat → Nat} (x2 : Int32) (hv : v < 6) (h32 : I 87 32 = nI m) (hm : m ≤ 24) (h6 : ∀ k, k < m → q_mo I k) (hr : rdM q L h a I) : ∃ lo hi I', f_X10_reach_101 g_fuel (nI v) x2 (nI q) (nI (3 ^ q)) 99 0 0 I = (if x2 = 0 then some (lo, I') else some (hi, I')) ∧ sD I I' ∧ MM (RS h a v q 0 (T0 (tt I) m)) 99 0 lo hi := by
  have hh : ∀ j, j < q → h j < 6 ∧ a j < 6 := fun j hj => ⟨(hr.2 j hj).2.2.2.2.1, (hr.2 j hj).2.2.2.2.2.1⟩
  have p729 : ∀ q, q ≤ 6 → 3 ^ q ≤ 729 := by decide
  have hq3 := p729 q hr.1
  refine lpg (P := fun fu x => ∀ lo hi I1, sD I I1 → (∀ j, I1 116 j = I 116 j) → MM (fun p => ∃ y, y < x ∧ p = pl (app h a q 0 y (T0 (tt I) m)) v) 99 0 lo hi → ∃ lo' hi' I', f_X10_reach_101 fu (nI v) x2 (nI q) (nI (3 ^ q)) lo hi (nI x) I1 = (if x2 = 0 then some (lo', I') else some (hi', I')) ∧ sD I I' ∧ MM (RS h a v q 0 (T0 (tt I) m)) 99 0 lo' hi') (n := 3 ^ q) (by omega) (fun fu lo hi I1 a1 a2 a3 => ?_) (fun fu x hx ih lo hi I1 a1 a2 a3 => ?_) 0 (Nat.zero_le _) 99 0 I (fun _ _ _ _ _ => rfl) (fun _ => rfl) (MM.zero.cg fun p => ⟨fun q => q.elim, fun ⟨y, hy, _⟩ => absurd hy (by omega)⟩)
  · refine ⟨lo, hi, I1, ?_, a1, a3.cg fun p => (RS_app q 0 _ p).symm⟩
    rw [f_X10_reach_101, if_pos (nI_le (Nat.le_refl _) (by omega))]
  · obtain ⟨I2, b1, b2, b3⟩ := tabs_m (I := I1) (m := m) (fun x1 x2 x3 x5 x6 x7 x8 I => f_X10_reach_101 fu x1 x2 x3 x5 x6 x7 x8 I) (nI v) x2 (nI q) (nI (3 ^ q)) lo hi (nI x) (by rw [a1 87 32 (by omega) (by omega) (by omega)]; exact h32) hm (mo_sD h6 a1)
    rw [tt_sD a1] at b3
    have hr2 : rdM q L h a I2 := ⟨hr.1, fun j hj => by
      obtain ⟨w1, w2, w3, w4, w5⟩ := hr.2 j hj
      refine ⟨?_, w2, ?_, ?_, w5⟩
      · rw [b2 _ _ (by omega) (by omega), a2]
        exact w1
      · rw [b2 _ _ (by omega) (by omega), a1 _ _ (by omega) (by omega) (by omega)]
        exact w3
      · rw [b2 _ _ (by omega) (by omega), a1 _ _ (by omega) (by omega) (by omega)]
        exact w4⟩
    obtain ⟨I3, d1, d2, d3⟩ := ways_m (q := q) (fun x1 x2 x3 x5 x6 x7 x8 I => f_X10_reach_101 fu x1 x2 x3 x5 x6 x7 x8 I) (nI v) x2 (nI (3 ^ q)) lo hi (nI x) q 0 g_fuel x I2 (by omega) (by have := hr.1; unfold g_fuel; omega) (by omega) hr2
    rw [f_X10_reach_101, if_neg (nI_ge hx (by omega)), b1, show (0 : Int32) = nI 0 from rfl, d1, one_m hv, nI_1]
    have e : pl (I3 115) v = pl (app h a q 0 x (T0 (tt I) m)) v := by
      have hu : ∀ u, u < 6 → I3 115 u = app h a q 0 x (T0 (tt I) m) u := fun u hu => by
        rw [d3]
        exact app_cg hh q 0 x _ _ (by omega) b3 u hu
      unfold pl
      rw [s_sum_cg (f := fun u => if I3 115 u ≤ I3 115 v then 0 else 1) (g := fun u => if app h a q 0 x (T0 (tt I) m) u ≤ app h a q 0 x (T0 (tt I) m) v then 0 else 1) fun u hu' => by rw [hu u hu', hu v hv]]
    refine ih _ _ I3 (fun b j q1 q2 q3 => by rw [d2 b j q2, b2 b j q1 q2]; exact a1 b j q1 q2 q3) (fun j => by rw [d2 116 j (by omega), b2 116 j (by omega) (by omega)]; exact a2 j) ?_
    rw [e]
    refine a3.tr MM.two fun p => ⟨fun ⟨y, hy, hp⟩ => ?_, fun hp => ?_⟩
    · by_cases z : y = x
      · subst z
        exact Or.inr hp
      · exact Or.inl ⟨y, by omega, hp⟩
    · rcases hp with ⟨y, hy, hp⟩ | hp
      · exact ⟨y, by omega, hp⟩
      · exact ⟨x, by omega, hp⟩
theorem o_reach : op_reach Inv := by
  intro m I J v w h
  obtain ⟨-, -, -, -, -, hM, -⟩ := id h
  obtain ⟨hm, g1, g2, h6⟩ := id hM
  have e0 : (0 : Int32).toInt = 0 := by decide
  have e1 : (1 : Int32).toInt = 1 := by decide
  have f0 : (0 : Int64).toInt = 0 := by decide
  have f1 : (1 : Int64).toInt = 1 := by decide
  unfold f_X9_reach f_X10_reach
  rw [vil_c, w_in, e0, e1]
  simp only [vil_m, m_in, Int32.toInt_toInt64, f0, f1]
  by_cases c1 : 0 ≤ v.toInt ∧ v.toInt ≤ 5
  · rw [decide_eq_true c1]
    simp only [if_true]
    by_cases c2 : 0 ≤ w.toInt ∧ w.toInt ≤ 1
    · rw [decide_eq_true c2]
      simp only [if_true]
      obtain ⟨v, hv, rfl⟩ := nI_lt_of (x := v) (n := 6) c1.1 (by omega)
      obtain ⟨I1, I1', a1, a2, a3, a4, a5⟩ := both_op h
      rw [ops_sum] at a1 a4
      have hlen := ops_len (t := tt I) m
      obtain ⟨q, eq⟩ : ∃ q, q = (ops (tt I) m).length := ⟨_, rfl⟩
      rw [← eq] at a1 a4 hlen
      rw [a1, Option.bind_some]
      try dsimp only
      have mo2 : ∀ {I3 : gI}, sm m I I3 → ∀ k, k < m → q_mo I3 k := fun s k hk => ((h6 k hk).sm s).mo
      have n32 : ∀ {I3 : gI}, sm m I I3 → I3 87 32 = nI m := fun s => by rw [s 87 32 (by unfold scr; omega)]; exact g2
      by_cases cq : q ≤ 6
      · obtain ⟨hr, ht⟩ := hM.rd a2 a3
        obtain ⟨I2, b1, b2, b3⟩ := sum_c hm hr ht
        obtain ⟨I3, d1, d2, d3⟩ := tabs_c (m := m) (t := tt I) (I := I2) (nI v) b3
        obtain ⟨I4, k1, k2, k3, k4⟩ := opn_c (m := m) (I := I) (I1 := I3) hm (hr.fr fun c j z => by rw [d2 c j (by omega), b2 c j (by omega)]) (by rw [← eq]; exact cq)
        rw [← eq] at k3 k4
        obtain ⟨L, eL⟩ : ∃ L : Nat → Nat, L = fun j => (ops (tt I) m).getD j 0 := ⟨_, rfl⟩
        have lL : ∀ j, j < q → L j < m := fun j hj => by
          rw [eL]
          exact ops_lt m j (by rw [← eq]; exact hj)
        obtain ⟨hh, ehh⟩ : ∃ hh : Nat → Nat, hh = fun j => (tt I).1 (L j) := ⟨_, rfl⟩
        obtain ⟨aa, eaa⟩ : ∃ aa : Nat → Nat, aa = fun j => (tt I).2.1 (L j) := ⟨_, rfl⟩
        have hb6 : ∀ j, j < q → hh j < 6 ∧ aa j < 6 := fun j hj => by
          rw [ehh, eaa]
          exact ⟨(ht (L j) (lL j hj)).1, (ht (L j) (lL j hj)).2.1⟩
        have hne : ∀ j, j < q → hh j ≠ aa j := fun j hj => by
          rw [ehh, eaa]
          exact (ht (L j) (lL j hj)).2.2
        have fr4 : ∀ b k, ¬ (70 ≤ b ∧ b ≤ 75) → b ≠ 82 → b ≠ 84 → ¬ (b = 65 ∧ k = 10) → I4 b k = I1 b k := fun b k z1 z2 z3 z4 => by rw [k2 b k z3 z4, d2 b k z2, b2 b k z1]
        have rl : rdL m q L hh aa (g_u (g_u I4 65 4 6) 65 5 1) := by
          refine ⟨?_, cq, hm, fun j hj => ⟨?_, lL j hj, ?_, ?_, (hb6 j hj).1, (hb6 j hj).2, hne j hj⟩⟩
          · rw [u_nk (by omega), u_nk (by omega)]
            exact k3
          · rw [u_na (by omega), u_na (by omega), k4 j hj, eL]
          · rw [u_na (by omega), u_na (by omega), fr4 _ _ (by omega) (by omega) (by omega) (by omega), (hr.2 (L j) (lL j hj)).1, ehh]
          · rw [u_na (by omega), u_na (by omega), fr4 _ _ (by omega) (by omega) (by omega) (by omega), (hr.2 (L j) (lL j hj)).2.1, eaa]
        have t4 : ∀ u, u < 6 → (g_u (g_u I4 65 4 6) 65 5 1) 82 u = T0 (tt I) m u := fun u hu => by
          rw [u_na (by omega), u_na (by omega), k2 82 u (by omega) (by omega)]
          exact d3 u hu
        obtain ⟨I5, m1, m2, m4⟩ := ways_c (m := m) (q := q) (v := v) (L := L) (h := hh) (a := aa) (T := T0 (tt I) m) hv rl t4 (by rw [u_nk (by omega), u_eq rfl rfl]) (u_eq rfl rfl)
        have s5 : sm m I I5 := fun a k z => by
          rw [m2 a k (fun e => z (by unfold scr; omega)) (fun e => z (by unfold scr; omega)), u_ap, if_neg (fun e => z (by unfold scr; omega)), u_ap, if_neg (fun e => z (by unfold scr; omega)), fr4 a k (fun e => z (by unfold scr; omega)) (fun e => z (by unfold scr; omega)) (fun e => z (by unfold scr; omega)) (fun e => z (by unfold scr; omega))]
          exact a2.sm a k z
        have cC : nI q ≤ 6 := nI_le (b := 6) cq (by omega)
        rw [if_pos cC, b1, Option.bind_some, d1, k1, Option.bind_some, pow_c (nI v) k3 cq, m1]
        simp only [Option.bind_some]
        obtain ⟨I6, n1, n2⟩ := op_m (I := I5) (m := m) (n32 s5) hm (mo2 s5)
        rw [ops_sum, tt_sm s5, ← eq] at n1
        have s6 : sm m I I6 := s5.tr n2.sm
        obtain ⟨I7, p1, p2, p3⟩ := opn_m (m := m) (I := I6) (nI v) w (nI q) (n32 s6) hm (mo2 s6) (by rw [tt_sm s6, ← eq]; exact cq)
        rw [tt_sm s6, ← eq] at p1 p3
        have s7 : sm m I I7 := s6.tr p2.sm
        have rm : rdM q L hh aa I7 := by
          refine ⟨cq, fun j hj => ⟨?_, by have := lL j hj; omega, ?_, ?_, (hb6 j hj).1, (hb6 j hj).2, hne j hj⟩⟩
          · rw [p3 j hj, eL]
          · rw [s7 108 _ (by unfold scr; omega), ehh]
            exact (hv_ok (h6 (L j) (lL j hj)).mo).1
          · rw [s7 109 _ (by unfold scr; omega), eaa]
            exact (hv_ok (h6 (L j) (lL j hj)).mo).2.2.1
        obtain ⟨lo, hi, I8, r1, r2, r3⟩ := all_w (I := I7) (m := m) (q := q) (v := v) (L := L) (h := hh) (a := aa) w hv (n32 s7) hm (mo2 s7) rm
        rw [tt_sm s7] at r3
        obtain ⟨z1, z2⟩ := m4.fin r3 (by
          obtain ⟨p, hp⟩ : ∃ p, p = pl (app hh aa q 0 0 (T0 (tt I) m)) v := ⟨_, rfl⟩
          exact ⟨p, (RS_app q 0 _ p).mpr ⟨0, Nat.pow_pos (by omega), hp⟩⟩) (fun p hp => by
          obtain ⟨y, -, e⟩ := (RS_app q 0 _ p).mp hp
          rw [e]
          exact pl_b _ hv)
        have s8 : sm m I I8 := s7.tr r2.sm
        by_cases w0 : w = 0
        · rw [if_pos w0]
          refine ⟨_, (lo, I8), rfl, ?_, z1, h.sm s8 sj.rfl⟩
          try dsimp only
          rw [n1, Option.bind_some]
          try dsimp only
          rw [if_pos cC]
          show f_X10_reach_49 g_fuel (nI v) w (nI q) 0 1 0 I6 = _
          rw [p1, r1, if_pos w0]
        · rw [if_neg w0]
          refine ⟨_, (hi, I8), rfl, ?_, z2, h.sm s8 sj.rfl⟩
          try dsimp only
          rw [n1, Option.bind_some]
          try dsimp only
          rw [if_pos cC]
          show f_X10_reach_49 g_fuel (nI v) w (nI q) 0 1 0 I6 = _
          rw [p1, r1, if_neg w0]
      · have cC : ¬ nI q ≤ 6 := nI_ge (a := 6) (by omega) (by omega)
        rw [if_neg cC]
        refine ⟨_, (-1005, I1'), rfl, ?_, rfl, h.sm (a2.sm.tr a5.sm) sj.rfl⟩
        try dsimp only
        rw [a4, Option.bind_some]
        try dsimp only
        rw [if_neg cC]
    · rw [decide_eq_false c2]
      exact ⟨_, (-1002, I), rfl, rfl, rfl, h⟩
  · rw [decide_eq_false c1]
    exact ⟨_, (-1001, I), rfl, rfl, rfl, h⟩
