/-! win: the rows of chances, of both -/
theorem cp_at {α : Type} {f : Nat → Nat → α} {a b N j : Nat} (h : j < N) : g_cp f a b N b j = f a j := by
  unfold g_cp
  simp [h]
theorem cp_na {α : Type} {f : Nat → Nat → α} {a b N c j : Nat} (h : c ≠ b) : g_cp f a b N c j = f c j := by
  unfold g_cp
  simp [h]
def c0 (x : Int32) (l : Nat) : Int64 := if (nI l - 9) < x then (0 : Int64) else (1 : Int64)
def ch (W : Nat → Int32) (s n : Nat) (x : Int32) : Nat → Nat → Int64
  | 0 => c0 x
  | j + 1 => fun l => (b_go W (ch W s n x j) ((s + (n - (j + 1))) % 2) l 2).1
def al : Nat → Int64
  | 0 => 1
  | j + 1 => al j * (60 : Int64)
theorem ch_cg {W W' : Nat → Int32} {s n : Nat} {x : Int32} (h1 : ∀ k, k < 30 → W k = W' k) : ∀ j l, ch W s n x j l = ch W' s n x j l := by
  intro j
  induction j with
  | zero => intro l; rfl
  | succ j ih =>
    intro l
    show (b_go W (ch W s n x j) ((s + (n - (j + 1))) % 2) l 2).1 = (b_go W' (ch W' s n x j) ((s + (n - (j + 1))) % 2) l 2).1
    rw [b_go_cg (by omega) h1 (fun k _ => ih k) 2 (by omega)]
theorem row_c {s : Nat} (k45 : Int32 → Int32 → Int32 → gI → gJ → Option (gI × gJ)) (x1 x2 x4 : Int32) (I : gI) (J : gJ) (hs : s < 2) : ∃ I' J', f_X3_work_64 k45 g_fuel x1 x2 x4 (nI s) 0 I J = k45 x1 x2 (x4 + 1) I' (g_u (g_cp J' 63 62 19) 60 1 (((g_cp J' 63 62 19) 60 1) * (60 : Int64))) ∧ (∀ b j, b ≠ 64 → I' b j = I b j) ∧ (∀ b j, b ≠ 63 → J' b j = J b j) ∧ ∀ l, l < 19 → I' 64 l = nI (b_go (I 61) (J 62) s l 2).2 ∧ J' 63 l = (b_go (I 61) (J 62) s l 2).1 := by
  refine lpg (P := fun fu k => ∀ I1 J1, (∀ b j, b ≠ 64 → I1 b j = I b j) → (∀ b j, b ≠ 63 → J1 b j = J b j) → (∀ l, l < k → I1 64 l = nI (b_go (I 61) (J 62) s l 2).2 ∧ J1 63 l = (b_go (I 61) (J 62) s l 2).1) → ∃ I' J', f_X3_work_64 k45 fu x1 x2 x4 (nI s) (nI k) I1 J1 = k45 x1 x2 (x4 + 1) I' (g_u (g_cp J' 63 62 19) 60 1 (((g_cp J' 63 62 19) 60 1) * (60 : Int64))) ∧ (∀ b j, b ≠ 64 → I' b j = I b j) ∧ (∀ b j, b ≠ 63 → J' b j = J b j) ∧ ∀ l, l < 19 → I' 64 l = nI (b_go (I 61) (J 62) s l 2).2 ∧ J' 63 l = (b_go (I 61) (J 62) s l 2).1) (n := 19) (by omega) (fun fu I1 J1 a1 a2 a3 => ?_) (fun fu k hk ih I1 J1 a1 a2 a3 => ?_) 0 (by omega) I J (fun _ _ _ => rfl) (fun _ _ _ => rfl) (fun l hl => absurd hl (by omega))
  · refine ⟨I1, J1, ?_, a1, a2, a3⟩
    rw [f_X3_work_64, if_pos (show (19 : Int32) ≤ nI 19 by decide)]
  · have e61 : I1 61 = I 61 := funext fun j => a1 61 j (by omega)
    have e62 : J1 62 = J 62 := funext fun j => a2 62 j (by omega)
    obtain ⟨I2, J2, b1, b2, b3, b4, b5⟩ := ch_c I1 J1 hs hk
    rw [e61, e62] at b4 b5
    rw [f_X3_work_64, if_neg (show ¬ (19 : Int32) ≤ nI k from nI_ge (b := 19) hk (by omega)), b1, Option.bind_some, nI_1]
    refine ih I2 J2 (fun b j q => by rw [b2 b j (by omega)]; exact a1 b j q) (fun b j q => by rw [b3 b j (by omega)]; exact a2 b j q) (fun l hl => ?_)
    by_cases e : l = k
    · subst e
      exact ⟨b4, b5⟩
    · rw [b2 64 l (by omega), b3 63 l (by omega)]
      exact a3 l (by omega)
theorem thr_c : ∀ s, s < 2 → ∀ n, n < 7 → ∀ j, j < n → ((nI s + nI n) - nI (j + 1)) - ((nI s + nI n) - nI (j + 1)) / 2 * 2 = nI ((s + (n - (j + 1))) % 2) := by decide +kernel
theorem thr_m : ∀ s, s < 2 → ∀ d, d < 7 → (if (nI d - nI d / 2 * 2) = 0 then nI s else (1 - nI s)) = nI ((s + d) % 2) := by decide +kernel
def cst (I : gI) (J : gJ) (s n : Nat) (x : Int32) (j : Nat) (I1 : gI) (J1 : gJ) : Prop := (∀ b k, b ≠ 64 → I1 b k = I b k) ∧ (∀ b k, b ≠ 60 → b ≠ 62 → b ≠ 63 → J1 b k = J b k) ∧ (∀ l, l < 19 → J1 62 l = ch (I 61) s n x j l) ∧ J1 60 1 = al j ∧ (j ≠ 0 → ∀ l, l < 19 → I1 64 l = nI (b_go (I 61) (ch (I 61) s n x (j - 1)) ((s + (n - j)) % 2) l 2).2)
theorem lpw_c {I : gI} {J : gJ} {s n : Nat} {x : Int32} (hs : s < 2) (hn : n < 7) : ∀ (d j fu : Nat) (I1 : gI) (J1 : gJ), j + d = n → d < fu → cst I J s n x j I1 J1 → ∃ I2 J2, f_X3_work_45 fu (nI n) (nI s) (nI (j + 1)) I1 J1 = some (I2, J2) ∧ cst I J s n x n I2 J2 := by
  intro d
  induction d with
  | zero =>
    intro j fu I1 J1 h1 h2 h3
    obtain ⟨fu, rfl⟩ : ∃ f, fu = f + 1 := ⟨fu - 1, by omega⟩
    have hj : j = n := by omega
    subst hj
    refine ⟨I1, J1, ?_, h3⟩
    rw [f_X3_work_45, if_pos (nI_lt (by omega) (by omega))]
  | succ d ih =>
    intro j fu I1 J1 h1 h2 h3
    obtain ⟨fu, rfl⟩ : ∃ f, fu = f + 1 := ⟨fu - 1, by omega⟩
    obtain ⟨a1, a2, a3, a4, a5⟩ := h3
    rw [f_X3_work_45, if_neg (nI_nlt (by omega) (by omega)), thr_c s hs n hn j (by omega)]
    have ht : (s + (n - (j + 1))) % 2 < 2 := Nat.mod_lt _ (by omega)
    obtain ⟨I', J', b1, b2, b3, b4⟩ := row_c (fun x1 x2 x4 I J => f_X3_work_45 fu x1 x2 x4 I J) (nI n) (nI s) (nI (j + 1)) I1 J1 ht
    rw [b1]
    have e61 : I1 61 = I 61 := funext fun k => a1 61 k (by omega)
    have cg : ∀ l, b_go (I1 61) (J1 62) ((s + (n - (j + 1))) % 2) l 2 = b_go (I 61) (ch (I 61) s n x j) ((s + (n - (j + 1))) % 2) l 2 := fun l => by
      rw [e61]
      exact b_go_cg ht (fun _ _ => rfl) a3 2 (by omega)
    try dsimp only
    rw [nI_1]
    refine ih (j + 1) fu I' _ (by omega) (by omega) ⟨fun b k q => ?_, fun b k q1 q2 q3 => ?_, fun l hl => ?_, ?_, fun _ l hl => ?_⟩
    · rw [b2 b k q]
      exact a1 b k q
    · rw [u_na q1, cp_na q2, b3 b k q3]
      exact a2 b k q1 q2 q3
    · rw [u_na (by omega), cp_at hl, (b4 l hl).2, cg l]
      rfl
    · rw [u_eq rfl rfl, cp_na (by omega), b3 60 1 (by omega), a4]
      rfl
    · rw [(b4 l hl).1, cg l]
      rfl
theorem ini_c {I : gI} {J : gJ} (x1 x2 x : Int32) : ∃ J', f_X3_work x1 x2 x I J = f_X3_work_45 g_fuel x1 x2 1 I J' ∧ (∀ b k, b ≠ 60 → b ≠ 62 → b ≠ 63 → J' b k = J b k) ∧ (∀ l, l < 19 → J' 62 l = c0 x l) ∧ J' 60 1 = 1 := by
  unfold f_X3_work
  refine lpg (P := fun fu k => ∀ J1, (∀ b k, b ≠ 60 → b ≠ 62 → b ≠ 63 → J1 b k = J b k) → (∀ l, l < k → J1 62 l = c0 x l) → J1 60 1 = 1 → ∃ J', f_X3_work_8 fu x1 x2 x (nI k) I J1 = f_X3_work_45 g_fuel x1 x2 1 I J' ∧ (∀ b k, b ≠ 60 → b ≠ 62 → b ≠ 63 → J' b k = J b k) ∧ (∀ l, l < 19 → J' 62 l = c0 x l) ∧ J' 60 1 = 1) (n := 19) (by omega) (fun fu J1 a1 a2 a3 => ?_) (fun fu k hk ih J1 a1 a2 a3 => ?_) 0 (by omega) (g_u J 60 1 (1 : Int64)) (fun b k q _ _ => u_na q) (fun l hl => absurd hl (by omega)) (u_eq rfl rfl)
  · refine ⟨J1, ?_, a1, a2, a3⟩
    rw [f_X3_work_8, if_pos (show (19 : Int32) ≤ nI 19 by decide)]
  · rw [f_X3_work_8, if_neg (show ¬ (19 : Int32) ≤ nI k from nI_ge (b := 19) hk (by omega))]
    unfold f_X3_work_35
    rw [gin_nI hk (by omega), if_pos rfl, nI_clamp (by omega), nI_1]
    refine ih _ (fun b k q1 q2 q3 => by rw [u_na q2]; exact a1 b k q1 q2 q3) (fun l hl => ?_) (by rw [u_na (by omega)]; exact a3)
    by_cases e : l = k
    · subst e
      rw [u_eq rfl rfl]
      rfl
    · rw [u_nk e]
      exact a2 l (by omega)
theorem all_c {I : gI} {J : gJ} {s n : Nat} {x : Int32} (hs : s < 2) (hn : n < 7) : ∃ I2 J2, f_X3_work (nI n) (nI s) x I J = some (I2, J2) ∧ cst I J s n x n I2 J2 := by
  obtain ⟨J', h1, h2, h3, h4⟩ := ini_c (I := I) (J := J) (nI n) (nI s) x
  rw [h1]
  exact lpw_c hs hn n 0 g_fuel I J' (by omega) (by unfold g_fuel; omega) ⟨fun _ _ _ => rfl, h2, h3, h4, fun q => absurd rfl q⟩
/-! the model's -/
theorem cpy_m (k120 : Int32 → Int32 → Int32 → Int64 → Int32 → gI → gJ → Option (Int64 × gI × gJ)) (x2 x3 x5 : Int32) (y6 : Int64) (x8 : Int32) (I : gI) (J : gJ) : ∃ J', f_X10_win_193 k120 g_fuel x2 x3 x5 y6 x8 0 I J = k120 x2 x3 x5 (y6 * (60 : Int64)) (x8 + (-1)) I J' ∧ (∀ b j, b ≠ 106 → J' b j = J b j) ∧ ∀ l, l < 19 → J' 106 l = J 107 l := by
  refine lpg (P := fun fu k => ∀ J1, (∀ b j, b ≠ 106 → J1 b j = J b j) → (∀ l, l < k → J1 106 l = J 107 l) → ∃ J', f_X10_win_193 k120 fu x2 x3 x5 y6 x8 (nI k) I J1 = k120 x2 x3 x5 (y6 * (60 : Int64)) (x8 + (-1)) I J' ∧ (∀ b j, b ≠ 106 → J' b j = J b j) ∧ ∀ l, l < 19 → J' 106 l = J 107 l) (n := 19) (by omega) (fun fu J1 a1 a2 => ?_) (fun fu k hk ih J1 a1 a2 => ?_) 0 (by omega) J (fun _ _ _ => rfl) (fun l hl => absurd hl (by omega))
  · refine ⟨J1, ?_, a1, a2⟩
    rw [f_X10_win_193, if_pos (show (19 : Int32) ≤ nI 19 by decide)]
  · rw [f_X10_win_193, if_neg (show ¬ (19 : Int32) ≤ nI k from nI_ge (b := 19) hk (by omega)), gin_nI hk (by omega), if_pos rfl, if_pos rfl, nI_clamp (by omega), nI_1]
    refine ih _ (fun b j q => by rw [u_na q]; exact a1 b j q) (fun l hl => ?_)
    by_cases e : l = k
    · subst e
      rw [u_eq rfl rfl]
      exact a1 107 l (by omega)
    · rw [u_nk e]
      exact a2 l (by omega)
theorem ld9 : ∀ l, l < 19 → ¬ (9 : Int32) < nI l - 9 ∧ g_in (nI l - 9 + 9) 19 = true ∧ (nI l - 9 + 9).toNatClampNeg = l ∧ nI l - 9 + 1 = nI (l + 1) - 9 := by decide +kernel
theorem row_m {s l0 : Nat} (k120 : Int32 → Int32 → Int32 → Int64 → Int32 → gI → gJ → Option (Int64 × gI × gJ)) (x2 x5 : Int32) (y6 : Int64) (x8 : Int32) (I : gI) (J : gJ) (hs : s < 2) (hl0 : l0 < 19) : ∃ I' J', f_X10_win_145 k120 g_fuel x2 (nI l0 - 9) x5 y6 x8 (nI s) (-9) I J = k120 x2 (nI l0 - 9) x5 (y6 * (60 : Int64)) (x8 + (-1)) I' J' ∧ (∀ b j, ¬ (b = 87 ∧ j = 31) → I' b j = I b j) ∧ (∀ b j, b ≠ 106 → b ≠ 107 → J' b j = J b j) ∧ (∀ l, l < 19 → J' 106 l = (b_go (I 105) (J 106) s l 2).1) ∧ (x8 = 0 → I' 87 31 = nI (b_go (I 105) (J 106) s l0 2).2) := by
  have key := lpg (P := fun fu k => ∀ I1 J1, (∀ b j, ¬ (b = 87 ∧ j = 31) → I1 b j = I b j) → (∀ b j, b ≠ 107 → J1 b j = J b j) → (∀ l, l < k → J1 107 l = (b_go (I 105) (J 106) s l 2).1) → ∃ I' J', f_X10_win_145 k120 fu x2 (nI l0 - 9) x5 y6 x8 (nI s) (nI k - 9) I1 J1 = k120 x2 (nI l0 - 9) x5 (y6 * (60 : Int64)) (x8 + (-1)) I' J' ∧ (∀ b j, ¬ (b = 87 ∧ j = 31) → I' b j = I b j) ∧ (∀ b j, b ≠ 106 → b ≠ 107 → J' b j = J b j) ∧ (∀ l, l < 19 → J' 106 l = (b_go (I 105) (J 106) s l 2).1) ∧ (x8 = 0 → I' 87 31 = nI (b_go (I 105) (J 106) s l0 2).2)) (n := 19) (by omega) (fun fu I1 J1 a1 a2 a3 => ?_) (fun fu k hk ih I1 J1 a1 a2 a3 => ?_) 0 (by omega)
  · have := key I J (fun _ _ _ => rfl) (fun _ _ _ => rfl) (fun l hl => absurd hl (by omega))
    rw [show nI 0 - 9 = (-9 : Int32) by decide] at this
    exact this
  · have e61 : I1 105 = I 105 := funext fun k => a1 105 k (by omega)
    have e62 : J1 106 = J 106 := funext fun k => a2 106 k (by omega)
    rw [f_X10_win_145, if_pos (show (9 : Int32) < nI 19 - 9 by decide)]
    unfold f_X10_win_190
    by_cases c : x8 = 0
    · obtain ⟨I2, b1, b2, b3⟩ := ch_m I1 J1 hs hl0
      rw [e61, e62] at b3
      rw [if_pos c, b1, Option.bind_some]
      try dsimp only
      obtain ⟨J2, d1, d2, d3⟩ := cpy_m k120 x2 (nI l0 - 9) x5 y6 x8 I2 J1
      exact ⟨I2, J2, d1, fun b j q => by rw [b2 b j q]; exact a1 b j q, fun b j q1 q2 => by rw [d2 b j q1]; exact a2 b j q2, fun l hl => by rw [d3 l hl]; exact a3 l hl, fun _ => b3⟩
    · rw [if_neg c]
      obtain ⟨J2, d1, d2, d3⟩ := cpy_m k120 x2 (nI l0 - 9) x5 y6 x8 I1 J1
      exact ⟨I1, J2, d1, a1, fun b j q1 q2 => by rw [d2 b j q1]; exact a2 b j q2, fun l hl => by rw [d3 l hl]; exact a3 l hl, fun q => absurd q c⟩
  · have e61 : I1 105 = I 105 := funext fun k => a1 105 k (by omega)
    have e62 : J1 106 = J 106 := funext fun k => a2 106 k (by omega)
    obtain ⟨t1, t2, t3, t4⟩ := ld9 k hk
    obtain ⟨I2, b1, b2, b3⟩ := ch_m I1 J1 hs hk
    rw [e61, e62] at b1
    rw [f_X10_win_145, if_neg t1, b1, Option.bind_some, if_pos t2, t3, t4]
    try dsimp only
    refine ih I2 _ (fun b j q => by rw [b2 b j q]; exact a1 b j q) (fun b j q => by rw [u_na q]; exact a2 b j q) (fun l hl => ?_)
    by_cases e : l = k
    · subst e
      rw [u_eq rfl rfl]
    · rw [u_nk e]
      exact a3 l (by omega)
def mst (I : gI) (J : gJ) (s n : Nat) (x : Int32) (l0 j : Nat) (I1 : gI) (J1 : gJ) : Prop := (∀ b k, ¬ (b = 87 ∧ k = 31) → I1 b k = I b k) ∧ (∀ b k, b ≠ 106 → b ≠ 107 → J1 b k = J b k) ∧ (∀ l, l < 19 → J1 106 l = ch (I 105) s n x j l) ∧ (n = 0 → I1 87 31 = -1) ∧ (j ≠ 0 → j = n → I1 87 31 = nI (b_go (I 105) (ch (I 105) s n x (j - 1)) ((s + (n - j)) % 2) l0 2).2)
theorem lpw_m {I : gI} {J : gJ} {s n l0 : Nat} {x : Int32} (x5 : Int32) (hs : s < 2) (hn : n < 7) (hl0 : l0 < 19) : ∀ (d j fu : Nat) (I1 : gI) (J1 : gJ), j + d = n → d < fu → mst I J s n x l0 j I1 J1 → ∃ I2 J2, f_X10_win_120 fu (nI s) (nI l0 - 9) x5 (al j) (nI d - 1) I1 J1 = f_X10_win_120 1 (nI s) (nI l0 - 9) x5 (al n) (nI 0 - 1) I2 J2 ∧ mst I J s n x l0 n I2 J2 := by
  intro d
  induction d with
  | zero =>
    intro j fu I1 J1 h1 h2 h3
    obtain ⟨fu, rfl⟩ : ∃ f, fu = f + 1 := ⟨fu - 1, by omega⟩
    have hj : j = n := by omega
    subst hj
    refine ⟨I1, J1, ?_, h3⟩
    rw [f_X10_win_120, f_X10_win_120, if_pos (show nI 0 - 1 < 0 by decide), if_pos (show nI 0 - 1 < 0 by decide)]
  | succ d ih =>
    intro j fu I1 J1 h1 h2 h3
    obtain ⟨fu, rfl⟩ : ∃ f, fu = f + 1 := ⟨fu - 1, by omega⟩
    obtain ⟨a1, a2, a3, a4, a5⟩ := h3
    have hd : n - (j + 1) = d := by omega
    rw [f_X10_win_120, nI_pred, if_neg (nI_pos (by omega)), thr_m s hs d (by omega)]
    unfold f_X10_win_139
    have ht : (s + d) % 2 < 2 := Nat.mod_lt _ (by omega)
    obtain ⟨I', J', b1, b2, b3, b4, b5⟩ := row_m (fun x2 x3 x5 y6 x8 I J => f_X10_win_120 fu x2 x3 x5 y6 x8 I J) (nI s) x5 (al j) (nI d) I1 J1 ht hl0
    rw [b1]
    have e61 : I1 105 = I 105 := funext fun k => a1 105 k (by omega)
    have cg : ∀ l, b_go (I1 105) (J1 106) ((s + d) % 2) l 2 = b_go (I 105) (ch (I 105) s n x j) ((s + d) % 2) l 2 := fun l => by
      rw [e61]
      exact b_go_cg ht (fun _ _ => rfl) a3 2 (by omega)
    try dsimp only
    rw [← Int32.sub_eq_add_neg]
    refine ih (j + 1) fu I' J' (by omega) (by omega) ⟨fun b k q => ?_, fun b k q1 q2 => ?_, fun l hl => ?_, fun q => by omega, fun _ q => ?_⟩
    · rw [b2 b k q]
      exact a1 b k q
    · rw [b3 b k q1 q2]
      exact a2 b k q1 q2
    · rw [b4 l hl, cg l, ← hd]
      rfl
    · have hd0 : d = 0 := by omega
      rw [b5 (by rw [hd0]; rfl), cg l0, ← hd]
      rfl
theorem ini_m {I : gI} {J : gJ} (x1 x2 x3 x x5 : Int32) : ∃ J', f_X10_win_72 g_fuel x1 x2 x3 x x5 (-9) I J = f_X10_win_120 g_fuel x2 x3 x5 (1 : Int64) (x1 - 1) (g_u I 87 31 (-1)) J' ∧ (∀ b k, b ≠ 106 → b ≠ 107 → J' b k = J b k) ∧ (∀ l, l < 19 → J' 106 l = c0 x l) := by
  have key := lpg (P := fun fu k => ∀ J1, (∀ b k, b ≠ 106 → b ≠ 107 → J1 b k = J b k) → (∀ l, l < k → J1 106 l = c0 x l) → ∃ J', f_X10_win_72 fu x1 x2 x3 x x5 (nI k - 9) I J1 = f_X10_win_120 g_fuel x2 x3 x5 (1 : Int64) (x1 - 1) (g_u I 87 31 (-1)) J' ∧ (∀ b k, b ≠ 106 → b ≠ 107 → J' b k = J b k) ∧ (∀ l, l < 19 → J' 106 l = c0 x l)) (n := 19) (by omega) (fun fu J1 a1 a2 => ?_) (fun fu k hk ih J1 a1 a2 => ?_) 0 (by omega)
  · have := key J (fun _ _ _ _ => rfl) (fun l hl => absurd hl (by omega))
    rw [show nI 0 - 9 = (-9 : Int32) by decide] at this
    exact this
  · refine ⟨J1, ?_, a1, a2⟩
    rw [f_X10_win_72, if_pos (show (9 : Int32) < nI 19 - 9 by decide)]
  · obtain ⟨t1, t2, t3, t4⟩ := ld9 k hk
    rw [f_X10_win_72, if_neg t1]
    unfold f_X10_win_100
    rw [if_pos t2, t3, t4]
    refine ih _ (fun b k q1 q2 => by rw [u_na q1]; exact a1 b k q1 q2) (fun l hl => ?_)
    by_cases e : l = k
    · subst e
      rw [u_eq rfl rfl]
      rfl
    · rw [u_nk e]
      exact a2 l (by omega)
theorem all_m {I : gI} {J : gJ} {s n l0 : Nat} {x : Int32} (x5 : Int32) (hs : s < 2) (hn : n < 7) (hl0 : l0 < 19) : ∃ I2 J2, f_X10_win_72 g_fuel (nI n) (nI s) (nI l0 - 9) x x5 (-9) I J = f_X10_win_120 1 (nI s) (nI l0 - 9) x5 (al n) (nI 0 - 1) I2 J2 ∧ mst I J s n x l0 n I2 J2 := by
  obtain ⟨J', h1, h2, h3⟩ := ini_m (I := I) (J := J) (nI n) (nI s) (nI l0 - 9) x x5
  rw [h1]
  have e104 : (g_u I 87 31 (-1)) 105 = I 105 := funext fun k => u_na (by omega)
  exact lpw_m x5 hs hn hl0 n 0 g_fuel (g_u I 87 31 (-1)) J' (by omega) (by unfold g_fuel; omega) ⟨fun b k q => by rw [u_ap, if_neg q], h2, h3, fun _ => u_eq rfl rfl, fun q => absurd rfl q⟩
