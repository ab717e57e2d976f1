/-! win: what a throw is worth, of both -/
def nx (s l k : Nat) : Nat := if s = 0 then min 18 (l + k - 2) else min 18 (l + 2 - k)
theorem nx_lt (s l k : Nat) : nx s l k < 19 := by
  unfold nx
  split <;> omega
def cl18 (z : Int32) : Int32 := if 0 < (if z < 18 then z else 18) then (if z < 18 then z else 18) else 0
def cl9 (z : Int32) : Int32 := if z ≤ 9 then (if (-9) ≤ z then z else (-9)) else 9
theorem nx_c : ∀ s, s < 2 → ∀ l, l < 19 → ∀ k, k < 5 → g_in (cl18 (nI l + (if nI s = 0 then (nI k - 2) else (2 - nI k)))) 19 = true ∧ (cl18 (nI l + (if nI s = 0 then (nI k - 2) else (2 - nI k)))).toNatClampNeg = nx s l k := by decide +kernel
theorem nx_m : ∀ s, s < 2 → ∀ l, l < 19 → ∀ k, k < 5 → g_in (cl9 (nI l - 9 + (if nI s = 0 then (nI k - 2) else (2 - nI k))) + 9) 19 = true ∧ (cl9 (nI l - 9 + (if nI s = 0 then (nI k - 2) else (2 - nI k))) + 9).toNatClampNeg = nx s l k := by decide +kernel
def w_go (W : Nat → Int32) (c : Nat → Int64) (s a l : Nat) : Nat → Int64
  | 0 => 0
  | k + 1 => w_go W c s a l k + (Int32.toInt64 (W (15 * s + 5 * a + k))) * c (nx s l k)
def bt (s : Nat) (w v : Int64) : Bool := if s = 0 then (if lg_cmp w v ≤ 0 then false else true) else (if 0 ≤ lg_cmp w v then false else true)
def b_go (W : Nat → Int32) (c : Nat → Int64) (s l : Nat) : Nat → Int64 × Nat
  | 0 => (w_go W c s 0 l 5, 0)
  | a + 1 => if bt s (w_go W c s (a + 1) l 5) (b_go W c s l a).1 = true then (w_go W c s (a + 1) l 5, a + 1) else b_go W c s l a
theorem w_go_cg {W W' : Nat → Int32} {c c' : Nat → Int64} {s a l : Nat} (hs : s < 2) (ha : a < 3) (h1 : ∀ k, k < 30 → W k = W' k) (h2 : ∀ k, k < 19 → c k = c' k) : ∀ k, k ≤ 5 → w_go W c s a l k = w_go W' c' s a l k := by
  intro k
  induction k with
  | zero => intro _; rfl
  | succ k ih =>
    intro hk
    show w_go W c s a l k + _ = w_go W' c' s a l k + _
    rw [ih (by omega), h1 _ (by omega), h2 _ (nx_lt s l k)]
theorem b_go_cg {W W' : Nat → Int32} {c c' : Nat → Int64} {s l : Nat} (hs : s < 2) (h1 : ∀ k, k < 30 → W k = W' k) (h2 : ∀ k, k < 19 → c k = c' k) : ∀ a, a < 3 → b_go W c s l a = b_go W' c' s l a := by
  intro a
  induction a with
  | zero =>
    intro _
    show (w_go W c s 0 l 5, 0) = (w_go W' c' s 0 l 5, 0)
    rw [w_go_cg hs (by omega) h1 h2 5 (by omega)]
  | succ a ih =>
    intro ha
    show (if bt s (w_go W c s (a + 1) l 5) (b_go W c s l a).1 = true then (w_go W c s (a + 1) l 5, a + 1) else b_go W c s l a) = (if bt s (w_go W' c' s (a + 1) l 5) (b_go W' c' s l a).1 = true then (w_go W' c' s (a + 1) l 5, a + 1) else b_go W' c' s l a)
    rw [ih (by omega), w_go_cg hs ha h1 h2 5 (by omega)]
theorem wo_c {s a l : Nat} (I : gI) (J : gJ) (hs : s < 2) (ha : a < 3) (hl : l < 19) : f_X3_chanceBy (nI l) (nI s) (nI a) I J = some (w_go (I 61) (J 62) s a l 5) := by
  unfold f_X3_chanceBy
  refine lpg (P := fun fu k => f_X3_chanceBy_13 fu (nI l) (nI s) (f_X3_firstWeight (nI s) (nI a)) (w_go (I 61) (J 62) s a l k) (nI k) I J = some (w_go (I 61) (J 62) s a l 5)) (n := 5) (by omega) (fun fu => ?_) (fun fu k hk ih => ?_) 0 (by omega)
  · rw [f_X3_chanceBy_13, if_pos (show (5 : Int32) ≤ nI 5 by decide)]
  · obtain ⟨i1, i2, -, -⟩ := ixw s hs a ha k hk
    obtain ⟨j1, j2⟩ := nx_c s hs l hl k hk
    rw [f_X3_chanceBy_13, if_neg (show ¬ (5 : Int32) ≤ nI k from nI_ge (b := 5) hk (by omega))]
    unfold f_X3_chanceBy_34
    unfold cl18 at j1 j2
    rw [if_pos i1, if_pos j1, i2, j2, nI_1]
    exact ih
theorem wo_m {s a l : Nat} (I : gI) (J : gJ) (hs : s < 2) (ha : a < 3) (hl : l < 19) : f_X10_worth (nI s) (nI a) (nI l - 9) I J = some (w_go (I 105) (J 106) s a l 5) := by
  unfold f_X10_worth
  refine lpg (P := fun fu k => f_X10_worth_6 fu (nI s) (nI a) (nI l - 9) (w_go (I 105) (J 106) s a l k) (nI k) I J = some (w_go (I 105) (J 106) s a l 5)) (n := 5) (by omega) (fun fu => ?_) (fun fu k hk ih => ?_) 0 (by omega)
  · rw [f_X10_worth_6, if_pos (show (5 : Int32) ≤ nI 5 by decide)]
  · obtain ⟨-, -, i1, i2⟩ := ixw s hs a ha k hk
    obtain ⟨j1, j2⟩ := nx_m s hs l hl k hk
    rw [f_X10_worth_6, if_neg (show ¬ (5 : Int32) ≤ nI k from nI_ge (b := 5) hk (by omega))]
    unfold f_X10_worth_28 f_X10_worth_57
    unfold cl9 at j1 j2
    rw [if_pos i1, if_pos j1, i2, j2, nI_1]
    exact ih
theorem s01 {s : Nat} (hs : s < 2) {α : Type} (a b : α) : (if nI s = 0 then a else b) = if s = 0 then a else b := by
  match s, hs with
  | 0, _ => rfl
  | 1, _ => rfl
theorem ch_c {s l : Nat} (I : gI) (J : gJ) (hs : s < 2) (hl : l < 19) : ∃ I' J', f_X3_chooseAct (nI l) (nI s) I J = some (I', J') ∧ (∀ b j, ¬ (b = 64 ∧ j = l) → I' b j = I b j) ∧ (∀ b j, ¬ (b = 63 ∧ j = l) → J' b j = J b j) ∧ I' 64 l = nI (b_go (I 61) (J 62) s l 2).2 ∧ J' 63 l = (b_go (I 61) (J 62) s l 2).1 := by
  have key := lpg (P := fun fu k => ∀ I1 J1, (∀ b j, ¬ (b = 64 ∧ j = l) → I1 b j = I b j) → (∀ b j, ¬ (b = 63 ∧ j = l) → J1 b j = J b j) → I1 64 l = nI (b_go (I 61) (J 62) s l k).2 → J1 63 l = (b_go (I 61) (J 62) s l k).1 → ∃ I' J', f_X3_chooseAct_22 fu (nI l) (nI s) (nI (k + 1)) I1 J1 = some (I', J') ∧ (∀ b j, ¬ (b = 64 ∧ j = l) → I' b j = I b j) ∧ (∀ b j, ¬ (b = 63 ∧ j = l) → J' b j = J b j) ∧ I' 64 l = nI (b_go (I 61) (J 62) s l 2).2 ∧ J' 63 l = (b_go (I 61) (J 62) s l 2).1) (n := 2) (by omega) (fun fu I1 J1 a1 a2 a3 a4 => ?_) (fun fu k hk ih I1 J1 a1 a2 a3 a4 => ?_) 0 (by omega)
  · have hg : g_in (nI l) 19 = true := gin_nI hl (by omega)
    have hw := wo_c (a := 0) (g_u I 64 l (nI 0)) J hs (by omega) hl
    rw [show (g_u I 64 l (nI 0)) 61 = I 61 from funext fun j => u_na (by omega)] at hw
    unfold f_X3_chooseAct
    rw [hg, if_pos rfl, nI_clamp (by omega), show (0 : Int32) = nI 0 from rfl, hw, Option.bind_some, if_pos rfl]
    exact key (g_u I 64 l (nI 0)) (g_u J 63 l (w_go (I 61) (J 62) s 0 l 5)) (fun b j q => by rw [u_ap, if_neg q]) (fun b j q => by rw [u_ap, if_neg q]) (u_eq rfl rfl) (u_eq rfl rfl)
  · refine ⟨I1, J1, ?_, a1, a2, a3, a4⟩
    rw [f_X3_chooseAct_22, if_pos (show (3 : Int32) ≤ nI (2 + 1) by decide)]
  · have e61 : I1 61 = I 61 := funext fun j => a1 61 j (by omega)
    have e62 : J1 62 = J 62 := funext fun j => a2 62 j (by omega)
    have hg : g_in (nI l) 19 = true := gin_nI hl (by omega)
    have hw := wo_c (a := k + 1) I1 J1 hs (by omega) hl
    rw [e61, e62] at hw
    rw [f_X3_chooseAct_22, if_neg (show ¬ (3 : Int32) ≤ nI (k + 1) from nI_ge (b := 3) (by omega) (by omega)), hw, Option.bind_some, hg, if_pos rfl, if_pos rfl, nI_clamp (by omega), a4]
    have hb : (b_go (I 61) (J 62) s l (k + 1)) = if bt s (w_go (I 61) (J 62) s (k + 1) l 5) (b_go (I 61) (J 62) s l k).1 = true then (w_go (I 61) (J 62) s (k + 1) l 5, k + 1) else b_go (I 61) (J 62) s l k := rfl
    have hgoal : ∃ I' J', f_X3_chooseAct_77 (fun x1 x2 x3 I J => f_X3_chooseAct_22 fu x1 x2 x3 I J) (nI l) (nI s) (nI (k + 1)) (w_go (I 61) (J 62) s (k + 1) l 5) (bt s (w_go (I 61) (J 62) s (k + 1) l 5) (b_go (I 61) (J 62) s l k).1) I1 J1 = some (I', J') ∧ (∀ b j, ¬ (b = 64 ∧ j = l) → I' b j = I b j) ∧ (∀ b j, ¬ (b = 63 ∧ j = l) → J' b j = J b j) ∧ I' 64 l = nI (b_go (I 61) (J 62) s l 2).2 ∧ J' 63 l = (b_go (I 61) (J 62) s l 2).1 := by
      by_cases cb : bt s (w_go (I 61) (J 62) s (k + 1) l 5) (b_go (I 61) (J 62) s l k).1 = true
      · rw [if_pos cb] at hb
        unfold f_X3_chooseAct_77 f_X3_chooseAct_99
        rw [cb, if_neg (by decide), hg, if_pos rfl, if_pos rfl, nI_clamp (by omega), nI_1]
        refine ih (g_u I1 64 l (nI (k + 1))) (g_u J1 63 l (w_go (I 61) (J 62) s (k + 1) l 5)) (fun b j q => by rw [u_ap, if_neg q]; exact a1 b j q) (fun b j q => by rw [u_ap, if_neg q]; exact a2 b j q) ?_ ?_
        · rw [u_eq rfl rfl, hb]
        · rw [u_eq rfl rfl, hb]
      · rw [if_neg cb] at hb
        have cb' : bt s (w_go (I 61) (J 62) s (k + 1) l 5) (b_go (I 61) (J 62) s l k).1 = false := by simpa using cb
        unfold f_X3_chooseAct_77 f_X3_chooseAct_99
        rw [cb', if_pos rfl, nI_1]
        exact ih I1 J1 a1 a2 (by rw [hb]; exact a3) (by rw [hb]; exact a4)
    unfold bt at hgoal
    match s, hs with
    | 0, _ => exact hgoal
    | 1, _ => exact hgoal
theorem ch_m {s l : Nat} (I : gI) (J : gJ) (hs : s < 2) (hl : l < 19) : ∃ I', f_X10_bestWorth (nI s) (nI l - 9) I J = some ((b_go (I 105) (J 106) s l 2).1, I') ∧ (∀ b j, ¬ (b = 87 ∧ j = 31) → I' b j = I b j) ∧ I' 87 31 = nI (b_go (I 105) (J 106) s l 2).2 := by
  have key := lpg (P := fun fu k => ∀ I1, (∀ b j, ¬ (b = 87 ∧ j = 31) → I1 b j = I b j) → I1 87 31 = nI (b_go (I 105) (J 106) s l k).2 → ∃ I', f_X10_bestWorth_16 fu (nI s) (nI l - 9) (b_go (I 105) (J 106) s l k).1 (nI (k + 1)) I1 J = some ((b_go (I 105) (J 106) s l 2).1, I') ∧ (∀ b j, ¬ (b = 87 ∧ j = 31) → I' b j = I b j) ∧ I' 87 31 = nI (b_go (I 105) (J 106) s l 2).2) (n := 2) (by omega) (fun fu I1 a1 a2 => ?_) (fun fu k hk ih I1 a1 a2 => ?_) 0 (by omega)
  · have hw := wo_m (a := 0) (g_u I 87 31 (nI 0)) J hs (by omega) hl
    rw [show (g_u I 87 31 (nI 0)) 105 = I 105 from funext fun j => u_na (by omega)] at hw
    unfold f_X10_bestWorth
    rw [show (0 : Int32) = nI 0 from rfl, hw, Option.bind_some]
    exact key (g_u I 87 31 (nI 0)) (fun b j q => by rw [u_ap, if_neg q]) (u_eq rfl rfl)
  · refine ⟨I1, ?_, a1, a2⟩
    rw [f_X10_bestWorth_16, if_pos (show (3 : Int32) ≤ nI (2 + 1) by decide)]
  · have e61 : I1 105 = I 105 := funext fun j => a1 105 j (by omega)
    have hw := wo_m (a := k + 1) I1 J hs (by omega) hl
    rw [e61] at hw
    rw [f_X10_bestWorth_16, if_neg (show ¬ (3 : Int32) ≤ nI (k + 1) from nI_ge (b := 3) (by omega) (by omega)), hw, Option.bind_some]
    have hb : (b_go (I 105) (J 106) s l (k + 1)) = if bt s (w_go (I 105) (J 106) s (k + 1) l 5) (b_go (I 105) (J 106) s l k).1 = true then (w_go (I 105) (J 106) s (k + 1) l 5, k + 1) else b_go (I 105) (J 106) s l k := rfl
    unfold f_X10_bestWorth_53 f_X10_bestWorth_62
    rw [s01 hs, nI_1]
    have hA : bt s (w_go (I 105) (J 106) s (k + 1) l 5) (b_go (I 105) (J 106) s l k).1 = true → ∃ I', f_X10_bestWorth_16 fu (nI s) (nI l - 9) (w_go (I 105) (J 106) s (k + 1) l 5) (nI (k + 1 + 1)) (g_u I1 87 31 (nI (k + 1))) J = some ((b_go (I 105) (J 106) s l 2).1, I') ∧ (∀ b j, ¬ (b = 87 ∧ j = 31) → I' b j = I b j) ∧ I' 87 31 = nI (b_go (I 105) (J 106) s l 2).2 := by
      intro cb
      rw [if_pos cb] at hb
      have := ih (g_u I1 87 31 (nI (k + 1))) (fun b j q => by rw [u_ap, if_neg q]; exact a1 b j q) (by rw [u_eq rfl rfl, hb])
      rw [hb] at this
      exact this
    have hB : bt s (w_go (I 105) (J 106) s (k + 1) l 5) (b_go (I 105) (J 106) s l k).1 = false → ∃ I', f_X10_bestWorth_16 fu (nI s) (nI l - 9) (b_go (I 105) (J 106) s l k).1 (nI (k + 1 + 1)) I1 J = some ((b_go (I 105) (J 106) s l 2).1, I') ∧ (∀ b j, ¬ (b = 87 ∧ j = 31) → I' b j = I b j) ∧ I' 87 31 = nI (b_go (I 105) (J 106) s l 2).2 := by
      intro cb
      rw [if_neg (by rw [cb]; decide)] at hb
      have := ih I1 a1 (by rw [hb]; exact a2)
      rw [hb] at this
      exact this
    unfold bt at hA hB
    by_cases s0 : s = 0
    · rw [if_pos s0] at hA hB
      rw [if_pos s0]
      by_cases c : lg_cmp (w_go (I 105) (J 106) s (k + 1) l 5) (b_go (I 105) (J 106) s l k).1 ≤ 0
      · rw [if_pos c] at hA hB
        rw [if_pos c]
        exact hB rfl
      · rw [if_neg c] at hA hB
        rw [if_neg c]
        exact hA rfl
    · rw [if_neg s0] at hA hB
      rw [if_neg s0]
      by_cases c : 0 ≤ lg_cmp (w_go (I 105) (J 106) s (k + 1) l 5) (b_go (I 105) (J 106) s l k).1
      · rw [if_pos c] at hA hB
        rw [if_pos c]
        exact hB rfl
      · rw [if_neg c] at hA hB
        rw [if_neg c]
        exact hA rfl
