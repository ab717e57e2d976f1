def g_k0_0 : List gK := [.inl 9, .inl 1, .inr (3, 12), .inl 2, .inr (0, 3), .inr (0, 3), .inl 2, .inr (0, 3), .inr (0, 3), .inl 2, .inr (0, 3), .inr (0, 3), .inl 2, .inr (0, 3), .inr (0, 3), .inl 2, .inr (0, 3), .inr (0, 3), .inl 2, .inr (0, 3), .inr (0, 3), .inl 2, .inr (0, 3), .inr (0, 3), .inl 2, .inr (0, 3), .inr (0, 3), .inl 2, .inr (0, 3), .inr (0, 3)]
def g_k0_1 : List gK := [.inl 2, .inr (0, 3), .inr (0, 3), .inl 2, .inr (0, 3), .inr (0, 3), .inl 2, .inr (0, 3), .inr (0, 3), .inl 8, .inr (0, 100), .inr (4, 6), .inl 6, .inr (0, 8), .inl 6, .inr (0, 8), .inl 6, .inr (0, 8), .inl 6, .inr (0, 8), .inl 6, .inr (0, 8), .inl 6, .inr (0, 8), .inl 6, .inr (0, 8), .inl 7, .inr (0, 2), .inr (2, 12), .inr (2, 12)]
def g_k0_2 : List gK := [.inl 3, .inr (0, 30), .inr (2, 19), .inr (2, 19), .inr (0, 19), .inl 0, .inr (5, 24), .inl 5, .inr (0, 5), .inr (6, 6), .inr (0, 6), .inr (0, 6), .inr (0, 6), .inr (0, 6), .inr (0, 6), .inr (0, 6), .inr (6, 5), .inr (0, 6), .inr (0, 6), .inr (0, 6), .inr (0, 6), .inr (0, 6), .inr (0, 6), .inr (0, 6), .inr (0, 6), .inl 5, .inr (0, 5), .inl 10, .inr (0, 12), .inr (0, 12)]
def g_k0_3 : List gK := [.inr (0, 12), .inr (0, 12), .inr (0, 12), .inr (0, 12), .inr (1, 12), .inr (1, 12), .inr (1, 36), .inr (0, 36), .inr (0, 36), .inr (0, 100), .inr (0, 48), .inr (0, 8), .inr (0, 2), .inr (2, 12), .inr (2, 12), .inr (0, 30), .inr (2, 19), .inr (2, 19), .inr (0, 24), .inr (0, 24), .inr (0, 24), .inr (1, 24), .inr (0, 24), .inr (0, 960), .inr (0, 5), .inr (0, 6), .inr (0, 6)]
def g_k0 : List gK := g_k0_0 ++ (g_k0_1 ++ (g_k0_2 ++ g_k0_3))
def gK0 (a : Nat) : gK := if a < 117 then g_k0.getD a (.inl 0) else if a % 2 = 1 then .inl 4 else .inr (0, 40)
def g_n (m : Nat) : Nat := 117 + 2 * m
def g_p0 : List (Nat × Nat × Nat) := [(0, 0, 1), (0, 1, 39), (0, 2, 41), (0, 3, 54), (0, 4, 56), (0, 5, 60), (0, 6, 65), (0, 7, 85), (1, 0, 2), (39, 0, 40), (56, 3, 57), (56, 4, 58), (56, 5, 59), (60, 0, 61), (60, 2, 62), (60, 3, 63), (60, 4, 64), (65, 0, 66), (65, 2, 67), (65, 3, 69), (65, 6, 76), (65, 7, 82), (65, 8, 83), (65, 9, 84), (67, 0, 68), (85, 0, 86), (87, 1, 88), (87, 2, 89), (87, 3, 90), (87, 4, 91), (87, 5, 92), (87, 6, 93), (87, 7, 94), (87, 8, 95), (87, 9, 96), (87, 10, 97), (87, 11, 98), (87, 12, 99), (87, 19, 100), (87, 20, 101), (87, 25, 102), (87, 26, 103), (87, 27, 104), (87, 28, 105), (87, 29, 106), (87, 30, 107), (87, 33, 108), (87, 34, 109), (87, 35, 110), (87, 36, 111), (87, 37, 112), (87, 38, 113), (87, 42, 114), (87, 44, 115), (87, 45, 116)]
def g_pf (l : List (Nat × Nat × Nat)) (a k : Nat) : Option Nat := match l with
  | [] => none
  | q :: l => if q.1 = a ∧ q.2.1 = k then some q.2.2 else g_pf l a k
def gP (m a k : Nat) : Option Nat :=
  if a = 2 then (if k < 12 then some (3 + 3 * k) else none)
  else if a = 41 then (if k < 6 then some (42 + 2 * k) else none)
  else if a = 66 then (if k < m then some (117 + 2 * k) else none)
  else if a = 69 then (if k < 6 then some (70 + k) else none)
  else if a = 76 then (if k < 5 then some (77 + k) else none)
  else if 3 ≤ a ∧ a < 39 ∧ a % 3 = 0 then (if k = 8 then some (a + 1) else if k = 9 then some (a + 2) else none)
  else if 42 ≤ a ∧ a < 56 ∧ a % 2 = 0 then (if k = 0 then some (a + 1) else none)
  else if 117 ≤ a ∧ a % 2 = 1 then (if k = 3 then some (a + 1) else none)
  else g_pf g_p0 a k
def g_isI (a : Nat) : Prop := 3 ≤ a ∧ a < 39 ∧ a % 3 = 0
def g_isR (a : Nat) : Prop := 42 ≤ a ∧ a < 56 ∧ a % 2 = 0
def g_isM (m a : Nat) : Prop := 117 ≤ a ∧ a < 117 + 2 * m ∧ a % 2 = 1
def g_isW (a : Nat) : Prop := (70 ≤ a ∧ a < 76) ∨ (77 ≤ a ∧ a < 82)
theorem gk0_Ia : ∀ a, a < 39 → (3 ≤ a ∧ a % 3 = 0) → gK0 a = .inl 2 := by decide +kernel
theorem gk0_Ib : ∀ a, a < 39 → (3 ≤ a ∧ a % 3 = 0) → gK0 (a + 1) = .inr (0, 3) := by decide +kernel
theorem gk0_Ic : ∀ a, a < 39 → (3 ≤ a ∧ a % 3 = 0) → gK0 (a + 2) = .inr (0, 3) := by decide +kernel
theorem gk0_I (a : Nat) (h : a < 39) (h1 : 3 ≤ a) (h2 : a % 3 = 0) : gK0 a = .inl 2 ∧ gK0 (a + 1) = .inr (0, 3) ∧ gK0 (a + 2) = .inr (0, 3) := ⟨gk0_Ia a h ⟨h1, h2⟩, gk0_Ib a h ⟨h1, h2⟩, gk0_Ic a h ⟨h1, h2⟩⟩
theorem gk0_Ra : ∀ a, a < 56 → (42 ≤ a ∧ a % 2 = 0) → gK0 a = .inl 6 := by decide +kernel
theorem gk0_Rb : ∀ a, a < 56 → (42 ≤ a ∧ a % 2 = 0) → gK0 (a + 1) = .inr (0, 8) := by decide +kernel
theorem gk0_R (a : Nat) (h : a < 56) (h1 : 42 ≤ a) (h2 : a % 2 = 0) : gK0 a = .inl 6 ∧ gK0 (a + 1) = .inr (0, 8) := ⟨gk0_Ra a h ⟨h1, h2⟩, gk0_Rb a h ⟨h1, h2⟩⟩
theorem gk0_W : ∀ a, a < 82 → ((70 ≤ a ∧ a < 76) ∨ (77 ≤ a ∧ a < 82)) → gK0 a = .inr (0, 6) := by decide +kernel
theorem k_I {m a : Nat} (h : g_isI a) : gk gK0 (g_n m) a (.inl 2) := ⟨(gk0_I a h.2.1 h.1 h.2.2).1, by have := h.2.1; unfold g_n; omega⟩
theorem k_I1 {m a : Nat} (h : g_isI a) : gk gK0 (g_n m) (a + 1) (.inr (0, 3)) := ⟨(gk0_I a h.2.1 h.1 h.2.2).2.1, by have := h.2.1; unfold g_n; omega⟩
theorem k_I2 {m a : Nat} (h : g_isI a) : gk gK0 (g_n m) (a + 2) (.inr (0, 3)) := ⟨(gk0_I a h.2.1 h.1 h.2.2).2.2, by have := h.2.1; unfold g_n; omega⟩
theorem k_R {m a : Nat} (h : g_isR a) : gk gK0 (g_n m) a (.inl 6) := ⟨(gk0_R a h.2.1 h.1 h.2.2).1, by have := h.2.1; unfold g_n; omega⟩
theorem k_R1 {m a : Nat} (h : g_isR a) : gk gK0 (g_n m) (a + 1) (.inr (0, 8)) := ⟨(gk0_R a h.2.1 h.1 h.2.2).2, by have := h.2.1; unfold g_n; omega⟩
theorem k_W {m a : Nat} (h : g_isW a) : gk gK0 (g_n m) a (.inr (0, 6)) := ⟨gk0_W a (by unfold g_isW at h; omega) h, by unfold g_isW at h; unfold g_n; omega⟩
theorem k_M {m a : Nat} (h : g_isM m a) : gk gK0 (g_n m) a (.inl 4) := by
  obtain ⟨h1, h2, h3⟩ := h
  refine ⟨?_, by unfold g_n; omega⟩
  unfold gK0
  rw [if_neg (by omega), if_pos h3]
theorem k_M1 {m a : Nat} (h : g_isM m a) : gk gK0 (g_n m) (a + 1) (.inr (0, 40)) := by
  obtain ⟨h1, h2, h3⟩ := h
  refine ⟨?_, by unfold g_n; omega⟩
  unfold gK0
  rw [if_neg (by omega), if_neg (by omega)]
theorem p_I8 {m a : Nat} (h : g_isI a) : gP m a 8 = some (a + 1) := by
  obtain ⟨h1, h2, h3⟩ := h
  unfold gP
  rw [if_neg (by omega), if_neg (by omega), if_neg (by omega), if_neg (by omega), if_neg (by omega), if_pos ⟨h1, h2, h3⟩, if_pos rfl]
theorem p_I9 {m a : Nat} (h : g_isI a) : gP m a 9 = some (a + 2) := by
  obtain ⟨h1, h2, h3⟩ := h
  unfold gP
  rw [if_neg (by omega), if_neg (by omega), if_neg (by omega), if_neg (by omega), if_neg (by omega), if_pos ⟨h1, h2, h3⟩, if_neg (by omega), if_pos rfl]
theorem p_R0 {m a : Nat} (h : g_isR a) : gP m a 0 = some (a + 1) := by
  obtain ⟨h1, h2, h3⟩ := h
  unfold gP
  rw [if_neg (by omega), if_neg (by omega), if_neg (by omega), if_neg (by omega), if_neg (by omega), if_neg (by omega), if_pos ⟨h1, h2, h3⟩, if_pos rfl]
theorem p_M3 {m a : Nat} (h : g_isM m a) : gP m a 3 = some (a + 1) := by
  obtain ⟨h1, h2, h3⟩ := h
  unfold gP
  rw [if_neg (by omega), if_neg (by omega), if_neg (by omega), if_neg (by omega), if_neg (by omega), if_neg (by omega), if_neg (by omega), if_pos ⟨h1, h3⟩, if_pos rfl]
/-- an index within, as a test -/
def g_in (i : Int32) (n : Nat) : Bool := decide (¬ (i < 0 ∨ n ≤ i.toNatClampNeg))
theorem g_in_vp {i : Int32} {n : Nat} (h : g_in i n = true) : vp_in i n := (of_decide_eq_true h : ¬ (i < 0 ∨ n ≤ i.toNatClampNeg))
theorem g_in_lt {i : Int32} {n : Nat} (h : g_in i n = true) : i.toNatClampNeg < n := Nat.not_le.mp fun q => g_in_vp h (Or.inr q)
theorem e_I {m : Nat} {i : Int32} (h : g_in i 12 = true) : gP m 2 i.toNatClampNeg = some (3 + 3 * i.toNatClampNeg) := by
  unfold gP
  rw [if_pos rfl, if_pos (g_in_lt h)]
theorem e_Ii {i : Int32} (h : g_in i 12 = true) : g_isI (3 + 3 * i.toNatClampNeg) := by
  have := g_in_lt h
  unfold g_isI
  omega
theorem e_R {m : Nat} {i : Int32} (h : g_in i 6 = true) : gP m 41 i.toNatClampNeg = some (42 + 2 * i.toNatClampNeg) := by
  unfold gP
  rw [if_neg (by omega), if_pos rfl, if_pos (g_in_lt h)]
theorem e_Ri {i : Int32} (h : g_in i 6 = true) : g_isR (42 + 2 * i.toNatClampNeg) := by
  have := g_in_lt h
  unfold g_isR
  omega
theorem e_M {m : Nat} {i : Int32} (h : i.toNatClampNeg < m) : gP m 66 i.toNatClampNeg = some (117 + 2 * i.toNatClampNeg) := by
  unfold gP
  rw [if_neg (by omega), if_neg (by omega), if_pos rfl, if_pos h]
theorem e_Mi {m : Nat} {i : Int32} (h : i.toNatClampNeg < m) : g_isM m (117 + 2 * i.toNatClampNeg) := by
  unfold g_isM
  omega
theorem e_S {m : Nat} {i : Int32} (h : g_in i 6 = true) : gP m 69 i.toNatClampNeg = some (70 + i.toNatClampNeg) := by
  unfold gP
  rw [if_neg (by omega), if_neg (by omega), if_neg (by omega), if_pos rfl, if_pos (g_in_lt h)]
theorem e_Si {i : Int32} (h : g_in i 6 = true) : g_isW (70 + i.toNatClampNeg) := by
  have := g_in_lt h
  unfold g_isW
  omega
theorem e_Y {m : Nat} {i : Int32} (h : g_in i 5 = true) : gP m 76 i.toNatClampNeg = some (77 + i.toNatClampNeg) := by
  unfold gP
  rw [if_neg (by omega), if_neg (by omega), if_neg (by omega), if_neg (by omega), if_pos rfl, if_pos (g_in_lt h)]
theorem e_Yi {i : Int32} (h : g_in i 5 = true) : g_isW (77 + i.toNatClampNeg) := by
  have := g_in_lt h
  unfold g_isW
  omega
theorem gP_0 {m a k : Nat} (h1 : a ≠ 2 ∧ a ≠ 41 ∧ a ≠ 66 ∧ a ≠ 69 ∧ a ≠ 76) (h2 : ¬ (3 ≤ a ∧ a < 39 ∧ a % 3 = 0) ∧ ¬ (42 ≤ a ∧ a < 56 ∧ a % 2 = 0) ∧ ¬ (117 ≤ a ∧ a % 2 = 1)) : gP m a k = g_pf g_p0 a k := by
  unfold gP
  rw [if_neg h1.1, if_neg h1.2.1, if_neg h1.2.2.1, if_neg h1.2.2.2.1, if_neg h1.2.2.2.2, if_neg h2.1, if_neg h2.2.1, if_neg h2.2.2]
theorem kf_0 {m : Nat} : gk gK0 (g_n m) 0 (.inl 9) := ⟨by decide +kernel, by unfold g_n; omega⟩
theorem kf_1 {m : Nat} : gk gK0 (g_n m) 1 (.inl 1) := ⟨by decide +kernel, by unfold g_n; omega⟩
theorem kf_2 {m : Nat} : gk gK0 (g_n m) 2 (.inr (3, 12)) := ⟨by decide +kernel, by unfold g_n; omega⟩
theorem kf_39 {m : Nat} : gk gK0 (g_n m) 39 (.inl 8) := ⟨by decide +kernel, by unfold g_n; omega⟩
theorem kf_40 {m : Nat} : gk gK0 (g_n m) 40 (.inr (0, 100)) := ⟨by decide +kernel, by unfold g_n; omega⟩
theorem kf_41 {m : Nat} : gk gK0 (g_n m) 41 (.inr (4, 6)) := ⟨by decide +kernel, by unfold g_n; omega⟩
theorem kf_42 {m : Nat} : gk gK0 (g_n m) 42 (.inl 6) := ⟨by decide +kernel, by unfold g_n; omega⟩
theorem kf_43 {m : Nat} : gk gK0 (g_n m) 43 (.inr (0, 8)) := ⟨by decide +kernel, by unfold g_n; omega⟩
theorem kf_44 {m : Nat} : gk gK0 (g_n m) 44 (.inl 6) := ⟨by decide +kernel, by unfold g_n; omega⟩
theorem kf_45 {m : Nat} : gk gK0 (g_n m) 45 (.inr (0, 8)) := ⟨by decide +kernel, by unfold g_n; omega⟩
theorem kf_46 {m : Nat} : gk gK0 (g_n m) 46 (.inl 6) := ⟨by decide +kernel, by unfold g_n; omega⟩
theorem kf_47 {m : Nat} : gk gK0 (g_n m) 47 (.inr (0, 8)) := ⟨by decide +kernel, by unfold g_n; omega⟩
theorem kf_48 {m : Nat} : gk gK0 (g_n m) 48 (.inl 6) := ⟨by decide +kernel, by unfold g_n; omega⟩
theorem kf_49 {m : Nat} : gk gK0 (g_n m) 49 (.inr (0, 8)) := ⟨by decide +kernel, by unfold g_n; omega⟩
theorem kf_50 {m : Nat} : gk gK0 (g_n m) 50 (.inl 6) := ⟨by decide +kernel, by unfold g_n; omega⟩
theorem kf_51 {m : Nat} : gk gK0 (g_n m) 51 (.inr (0, 8)) := ⟨by decide +kernel, by unfold g_n; omega⟩
theorem kf_52 {m : Nat} : gk gK0 (g_n m) 52 (.inl 6) := ⟨by decide +kernel, by unfold g_n; omega⟩
theorem kf_53 {m : Nat} : gk gK0 (g_n m) 53 (.inr (0, 8)) := ⟨by decide +kernel, by unfold g_n; omega⟩
theorem kf_54 {m : Nat} : gk gK0 (g_n m) 54 (.inl 6) := ⟨by decide +kernel, by unfold g_n; omega⟩
theorem kf_55 {m : Nat} : gk gK0 (g_n m) 55 (.inr (0, 8)) := ⟨by decide +kernel, by unfold g_n; omega⟩
theorem kf_56 {m : Nat} : gk gK0 (g_n m) 56 (.inl 7) := ⟨by decide +kernel, by unfold g_n; omega⟩
theorem kf_57 {m : Nat} : gk gK0 (g_n m) 57 (.inr (0, 2)) := ⟨by decide +kernel, by unfold g_n; omega⟩
theorem kf_58 {m : Nat} : gk gK0 (g_n m) 58 (.inr (2, 12)) := ⟨by decide +kernel, by unfold g_n; omega⟩
theorem kf_59 {m : Nat} : gk gK0 (g_n m) 59 (.inr (2, 12)) := ⟨by decide +kernel, by unfold g_n; omega⟩
theorem kf_60 {m : Nat} : gk gK0 (g_n m) 60 (.inl 3) := ⟨by decide +kernel, by unfold g_n; omega⟩
theorem kf_61 {m : Nat} : gk gK0 (g_n m) 61 (.inr (0, 30)) := ⟨by decide +kernel, by unfold g_n; omega⟩
theorem kf_62 {m : Nat} : gk gK0 (g_n m) 62 (.inr (2, 19)) := ⟨by decide +kernel, by unfold g_n; omega⟩
theorem kf_63 {m : Nat} : gk gK0 (g_n m) 63 (.inr (2, 19)) := ⟨by decide +kernel, by unfold g_n; omega⟩
theorem kf_64 {m : Nat} : gk gK0 (g_n m) 64 (.inr (0, 19)) := ⟨by decide +kernel, by unfold g_n; omega⟩
theorem kf_65 {m : Nat} : gk gK0 (g_n m) 65 (.inl 0) := ⟨by decide +kernel, by unfold g_n; omega⟩
theorem kf_66 {m : Nat} : gk gK0 (g_n m) 66 (.inr (5, 24)) := ⟨by decide +kernel, by unfold g_n; omega⟩
theorem kf_67 {m : Nat} : gk gK0 (g_n m) 67 (.inl 5) := ⟨by decide +kernel, by unfold g_n; omega⟩
theorem kf_68 {m : Nat} : gk gK0 (g_n m) 68 (.inr (0, 5)) := ⟨by decide +kernel, by unfold g_n; omega⟩
theorem kf_69 {m : Nat} : gk gK0 (g_n m) 69 (.inr (6, 6)) := ⟨by decide +kernel, by unfold g_n; omega⟩
theorem kf_70 {m : Nat} : gk gK0 (g_n m) 70 (.inr (0, 6)) := ⟨by decide +kernel, by unfold g_n; omega⟩
theorem kf_71 {m : Nat} : gk gK0 (g_n m) 71 (.inr (0, 6)) := ⟨by decide +kernel, by unfold g_n; omega⟩
theorem kf_72 {m : Nat} : gk gK0 (g_n m) 72 (.inr (0, 6)) := ⟨by decide +kernel, by unfold g_n; omega⟩
theorem kf_73 {m : Nat} : gk gK0 (g_n m) 73 (.inr (0, 6)) := ⟨by decide +kernel, by unfold g_n; omega⟩
theorem kf_74 {m : Nat} : gk gK0 (g_n m) 74 (.inr (0, 6)) := ⟨by decide +kernel, by unfold g_n; omega⟩
theorem kf_75 {m : Nat} : gk gK0 (g_n m) 75 (.inr (0, 6)) := ⟨by decide +kernel, by unfold g_n; omega⟩
theorem kf_76 {m : Nat} : gk gK0 (g_n m) 76 (.inr (6, 5)) := ⟨by decide +kernel, by unfold g_n; omega⟩
theorem kf_77 {m : Nat} : gk gK0 (g_n m) 77 (.inr (0, 6)) := ⟨by decide +kernel, by unfold g_n; omega⟩
theorem kf_78 {m : Nat} : gk gK0 (g_n m) 78 (.inr (0, 6)) := ⟨by decide +kernel, by unfold g_n; omega⟩
theorem kf_79 {m : Nat} : gk gK0 (g_n m) 79 (.inr (0, 6)) := ⟨by decide +kernel, by unfold g_n; omega⟩
theorem kf_80 {m : Nat} : gk gK0 (g_n m) 80 (.inr (0, 6)) := ⟨by decide +kernel, by unfold g_n; omega⟩
theorem kf_81 {m : Nat} : gk gK0 (g_n m) 81 (.inr (0, 6)) := ⟨by decide +kernel, by unfold g_n; omega⟩
theorem kf_82 {m : Nat} : gk gK0 (g_n m) 82 (.inr (0, 6)) := ⟨by decide +kernel, by unfold g_n; omega⟩
theorem kf_83 {m : Nat} : gk gK0 (g_n m) 83 (.inr (0, 6)) := ⟨by decide +kernel, by unfold g_n; omega⟩
theorem kf_84 {m : Nat} : gk gK0 (g_n m) 84 (.inr (0, 6)) := ⟨by decide +kernel, by unfold g_n; omega⟩
theorem kf_85 {m : Nat} : gk gK0 (g_n m) 85 (.inl 5) := ⟨by decide +kernel, by unfold g_n; omega⟩
theorem kf_86 {m : Nat} : gk gK0 (g_n m) 86 (.inr (0, 5)) := ⟨by decide +kernel, by unfold g_n; omega⟩
theorem kf_87 {m : Nat} : gk gK0 (g_n m) 87 (.inl 10) := ⟨by decide +kernel, by unfold g_n; omega⟩
theorem kf_88 {m : Nat} : gk gK0 (g_n m) 88 (.inr (0, 12)) := ⟨by decide +kernel, by unfold g_n; omega⟩
theorem kf_89 {m : Nat} : gk gK0 (g_n m) 89 (.inr (0, 12)) := ⟨by decide +kernel, by unfold g_n; omega⟩
theorem kf_90 {m : Nat} : gk gK0 (g_n m) 90 (.inr (0, 12)) := ⟨by decide +kernel, by unfold g_n; omega⟩
theorem kf_91 {m : Nat} : gk gK0 (g_n m) 91 (.inr (0, 12)) := ⟨by decide +kernel, by unfold g_n; omega⟩
theorem kf_92 {m : Nat} : gk gK0 (g_n m) 92 (.inr (0, 12)) := ⟨by decide +kernel, by unfold g_n; omega⟩
theorem kf_93 {m : Nat} : gk gK0 (g_n m) 93 (.inr (0, 12)) := ⟨by decide +kernel, by unfold g_n; omega⟩
theorem kf_94 {m : Nat} : gk gK0 (g_n m) 94 (.inr (1, 12)) := ⟨by decide +kernel, by unfold g_n; omega⟩
theorem kf_95 {m : Nat} : gk gK0 (g_n m) 95 (.inr (1, 12)) := ⟨by decide +kernel, by unfold g_n; omega⟩
theorem kf_96 {m : Nat} : gk gK0 (g_n m) 96 (.inr (1, 36)) := ⟨by decide +kernel, by unfold g_n; omega⟩
theorem kf_97 {m : Nat} : gk gK0 (g_n m) 97 (.inr (0, 36)) := ⟨by decide +kernel, by unfold g_n; omega⟩
theorem kf_98 {m : Nat} : gk gK0 (g_n m) 98 (.inr (0, 36)) := ⟨by decide +kernel, by unfold g_n; omega⟩
theorem kf_99 {m : Nat} : gk gK0 (g_n m) 99 (.inr (0, 100)) := ⟨by decide +kernel, by unfold g_n; omega⟩
theorem kf_100 {m : Nat} : gk gK0 (g_n m) 100 (.inr (0, 48)) := ⟨by decide +kernel, by unfold g_n; omega⟩
theorem kf_101 {m : Nat} : gk gK0 (g_n m) 101 (.inr (0, 8)) := ⟨by decide +kernel, by unfold g_n; omega⟩
theorem kf_102 {m : Nat} : gk gK0 (g_n m) 102 (.inr (0, 2)) := ⟨by decide +kernel, by unfold g_n; omega⟩
theorem kf_103 {m : Nat} : gk gK0 (g_n m) 103 (.inr (2, 12)) := ⟨by decide +kernel, by unfold g_n; omega⟩
theorem kf_104 {m : Nat} : gk gK0 (g_n m) 104 (.inr (2, 12)) := ⟨by decide +kernel, by unfold g_n; omega⟩
theorem kf_105 {m : Nat} : gk gK0 (g_n m) 105 (.inr (0, 30)) := ⟨by decide +kernel, by unfold g_n; omega⟩
theorem kf_106 {m : Nat} : gk gK0 (g_n m) 106 (.inr (2, 19)) := ⟨by decide +kernel, by unfold g_n; omega⟩
theorem kf_107 {m : Nat} : gk gK0 (g_n m) 107 (.inr (2, 19)) := ⟨by decide +kernel, by unfold g_n; omega⟩
theorem kf_108 {m : Nat} : gk gK0 (g_n m) 108 (.inr (0, 24)) := ⟨by decide +kernel, by unfold g_n; omega⟩
theorem kf_109 {m : Nat} : gk gK0 (g_n m) 109 (.inr (0, 24)) := ⟨by decide +kernel, by unfold g_n; omega⟩
theorem kf_110 {m : Nat} : gk gK0 (g_n m) 110 (.inr (0, 24)) := ⟨by decide +kernel, by unfold g_n; omega⟩
theorem kf_111 {m : Nat} : gk gK0 (g_n m) 111 (.inr (1, 24)) := ⟨by decide +kernel, by unfold g_n; omega⟩
theorem kf_112 {m : Nat} : gk gK0 (g_n m) 112 (.inr (0, 24)) := ⟨by decide +kernel, by unfold g_n; omega⟩
theorem kf_113 {m : Nat} : gk gK0 (g_n m) 113 (.inr (0, 960)) := ⟨by decide +kernel, by unfold g_n; omega⟩
theorem kf_114 {m : Nat} : gk gK0 (g_n m) 114 (.inr (0, 5)) := ⟨by decide +kernel, by unfold g_n; omega⟩
theorem kf_115 {m : Nat} : gk gK0 (g_n m) 115 (.inr (0, 6)) := ⟨by decide +kernel, by unfold g_n; omega⟩
theorem kf_116 {m : Nat} : gk gK0 (g_n m) 116 (.inr (0, 6)) := ⟨by decide +kernel, by unfold g_n; omega⟩
theorem pf_0_0 {m : Nat} : gP m 0 0 = some 1 := (gP_0 (by decide) (by decide)).trans (by decide +kernel)
theorem pf_0_1 {m : Nat} : gP m 0 1 = some 39 := (gP_0 (by decide) (by decide)).trans (by decide +kernel)
theorem pf_0_2 {m : Nat} : gP m 0 2 = some 41 := (gP_0 (by decide) (by decide)).trans (by decide +kernel)
theorem pf_0_3 {m : Nat} : gP m 0 3 = some 54 := (gP_0 (by decide) (by decide)).trans (by decide +kernel)
theorem pf_0_4 {m : Nat} : gP m 0 4 = some 56 := (gP_0 (by decide) (by decide)).trans (by decide +kernel)
theorem pf_0_5 {m : Nat} : gP m 0 5 = some 60 := (gP_0 (by decide) (by decide)).trans (by decide +kernel)
theorem pf_0_6 {m : Nat} : gP m 0 6 = some 65 := (gP_0 (by decide) (by decide)).trans (by decide +kernel)
theorem pf_0_7 {m : Nat} : gP m 0 7 = some 85 := (gP_0 (by decide) (by decide)).trans (by decide +kernel)
theorem pf_1_0 {m : Nat} : gP m 1 0 = some 2 := (gP_0 (by decide) (by decide)).trans (by decide +kernel)
theorem pf_39_0 {m : Nat} : gP m 39 0 = some 40 := (gP_0 (by decide) (by decide)).trans (by decide +kernel)
theorem pf_56_3 {m : Nat} : gP m 56 3 = some 57 := (gP_0 (by decide) (by decide)).trans (by decide +kernel)
theorem pf_56_4 {m : Nat} : gP m 56 4 = some 58 := (gP_0 (by decide) (by decide)).trans (by decide +kernel)
theorem pf_56_5 {m : Nat} : gP m 56 5 = some 59 := (gP_0 (by decide) (by decide)).trans (by decide +kernel)
theorem pf_60_0 {m : Nat} : gP m 60 0 = some 61 := (gP_0 (by decide) (by decide)).trans (by decide +kernel)
theorem pf_60_2 {m : Nat} : gP m 60 2 = some 62 := (gP_0 (by decide) (by decide)).trans (by decide +kernel)
theorem pf_60_3 {m : Nat} : gP m 60 3 = some 63 := (gP_0 (by decide) (by decide)).trans (by decide +kernel)
theorem pf_60_4 {m : Nat} : gP m 60 4 = some 64 := (gP_0 (by decide) (by decide)).trans (by decide +kernel)
theorem pf_65_0 {m : Nat} : gP m 65 0 = some 66 := (gP_0 (by decide) (by decide)).trans (by decide +kernel)
theorem pf_65_2 {m : Nat} : gP m 65 2 = some 67 := (gP_0 (by decide) (by decide)).trans (by decide +kernel)
theorem pf_65_3 {m : Nat} : gP m 65 3 = some 69 := (gP_0 (by decide) (by decide)).trans (by decide +kernel)
theorem pf_65_6 {m : Nat} : gP m 65 6 = some 76 := (gP_0 (by decide) (by decide)).trans (by decide +kernel)
theorem pf_65_7 {m : Nat} : gP m 65 7 = some 82 := (gP_0 (by decide) (by decide)).trans (by decide +kernel)
theorem pf_65_8 {m : Nat} : gP m 65 8 = some 83 := (gP_0 (by decide) (by decide)).trans (by decide +kernel)
theorem pf_65_9 {m : Nat} : gP m 65 9 = some 84 := (gP_0 (by decide) (by decide)).trans (by decide +kernel)
theorem pf_67_0 {m : Nat} : gP m 67 0 = some 68 := (gP_0 (by decide) (by decide)).trans (by decide +kernel)
theorem pf_85_0 {m : Nat} : gP m 85 0 = some 86 := (gP_0 (by decide) (by decide)).trans (by decide +kernel)
theorem pf_87_1 {m : Nat} : gP m 87 1 = some 88 := (gP_0 (by decide) (by decide)).trans (by decide +kernel)
theorem pf_87_2 {m : Nat} : gP m 87 2 = some 89 := (gP_0 (by decide) (by decide)).trans (by decide +kernel)
theorem pf_87_3 {m : Nat} : gP m 87 3 = some 90 := (gP_0 (by decide) (by decide)).trans (by decide +kernel)
theorem pf_87_4 {m : Nat} : gP m 87 4 = some 91 := (gP_0 (by decide) (by decide)).trans (by decide +kernel)
theorem pf_87_5 {m : Nat} : gP m 87 5 = some 92 := (gP_0 (by decide) (by decide)).trans (by decide +kernel)
theorem pf_87_6 {m : Nat} : gP m 87 6 = some 93 := (gP_0 (by decide) (by decide)).trans (by decide +kernel)
theorem pf_87_7 {m : Nat} : gP m 87 7 = some 94 := (gP_0 (by decide) (by decide)).trans (by decide +kernel)
theorem pf_87_8 {m : Nat} : gP m 87 8 = some 95 := (gP_0 (by decide) (by decide)).trans (by decide +kernel)
theorem pf_87_9 {m : Nat} : gP m 87 9 = some 96 := (gP_0 (by decide) (by decide)).trans (by decide +kernel)
theorem pf_87_10 {m : Nat} : gP m 87 10 = some 97 := (gP_0 (by decide) (by decide)).trans (by decide +kernel)
theorem pf_87_11 {m : Nat} : gP m 87 11 = some 98 := (gP_0 (by decide) (by decide)).trans (by decide +kernel)
theorem pf_87_12 {m : Nat} : gP m 87 12 = some 99 := (gP_0 (by decide) (by decide)).trans (by decide +kernel)
theorem pf_87_19 {m : Nat} : gP m 87 19 = some 100 := (gP_0 (by decide) (by decide)).trans (by decide +kernel)
theorem pf_87_20 {m : Nat} : gP m 87 20 = some 101 := (gP_0 (by decide) (by decide)).trans (by decide +kernel)
theorem pf_87_25 {m : Nat} : gP m 87 25 = some 102 := (gP_0 (by decide) (by decide)).trans (by decide +kernel)
theorem pf_87_26 {m : Nat} : gP m 87 26 = some 103 := (gP_0 (by decide) (by decide)).trans (by decide +kernel)
theorem pf_87_27 {m : Nat} : gP m 87 27 = some 104 := (gP_0 (by decide) (by decide)).trans (by decide +kernel)
theorem pf_87_28 {m : Nat} : gP m 87 28 = some 105 := (gP_0 (by decide) (by decide)).trans (by decide +kernel)
theorem pf_87_29 {m : Nat} : gP m 87 29 = some 106 := (gP_0 (by decide) (by decide)).trans (by decide +kernel)
theorem pf_87_30 {m : Nat} : gP m 87 30 = some 107 := (gP_0 (by decide) (by decide)).trans (by decide +kernel)
theorem pf_87_33 {m : Nat} : gP m 87 33 = some 108 := (gP_0 (by decide) (by decide)).trans (by decide +kernel)
theorem pf_87_34 {m : Nat} : gP m 87 34 = some 109 := (gP_0 (by decide) (by decide)).trans (by decide +kernel)
theorem pf_87_35 {m : Nat} : gP m 87 35 = some 110 := (gP_0 (by decide) (by decide)).trans (by decide +kernel)
theorem pf_87_36 {m : Nat} : gP m 87 36 = some 111 := (gP_0 (by decide) (by decide)).trans (by decide +kernel)
theorem pf_87_37 {m : Nat} : gP m 87 37 = some 112 := (gP_0 (by decide) (by decide)).trans (by decide +kernel)
theorem pf_87_38 {m : Nat} : gP m 87 38 = some 113 := (gP_0 (by decide) (by decide)).trans (by decide +kernel)
theorem pf_87_42 {m : Nat} : gP m 87 42 = some 114 := (gP_0 (by decide) (by decide)).trans (by decide +kernel)
theorem pf_87_44 {m : Nat} : gP m 87 44 = some 115 := (gP_0 (by decide) (by decide)).trans (by decide +kernel)
theorem pf_87_45 {m : Nat} : gP m 87 45 = some 116 := (gP_0 (by decide) (by decide)).trans (by decide +kernel)
theorem is_R54 : g_isR 54 := by unfold g_isR; omega
/-- ints that are truth values -/
def g_b (b : Bool) : Int32 := if b then 1 else 0
theorem g_b_nar (b : Bool) : narrow .boolean (.int (g_b b)) = .int (g_b b) := by cases b <;> decide
theorem g_b_ok (b : Bool) : g_ok .boolean (.int (g_b b)) := by cases b <;> (refine ⟨?_, ?_⟩ <;> decide)
theorem g_ok_z {x : Int32} (h : x = 0 ∨ x = 1) : g_ok .boolean (.int x) := by rcases h with rfl | rfl <;> (refine ⟨?_, ?_⟩ <;> decide)
def g_fuel : Nat := 1000
section GB
variable {μ : gMeth} {d mc ms : Nat} {post : gPost} {nc ns : Nat} {M : gMem} {al : List (Option Value)} {pc : Nat} {st : List Value}
theorem G_ifb_eq {b : Bool} {off : Int} (tgt : Nat) (hd : decode μ.2.1 pc = .ok (.ifCond .eq off, 3)) (ht : (pc : Int) + off = (tgt : Int)) (kt : b = false → G μ d mc ms post nc ns M al tgt st) (kf : b = true → G μ d mc ms post nc ns M al (pc + 3) st) : G μ d mc ms post nc ns M al pc (.int (g_b b) :: st) := by
  refine G_if_eq tgt hd ht (fun h => kt ?_) (fun h => kf ?_)
  · cases b
    · rfl
    · exact absurd h (by decide)
  · cases b
    · exact absurd rfl h
    · rfl
theorem G_ifb_ne {b : Bool} {off : Int} (tgt : Nat) (hd : decode μ.2.1 pc = .ok (.ifCond .ne off, 3)) (ht : (pc : Int) + off = (tgt : Int)) (kt : b = true → G μ d mc ms post nc ns M al tgt st) (kf : b = false → G μ d mc ms post nc ns M al (pc + 3) st) : G μ d mc ms post nc ns M al pc (.int (g_b b) :: st) := by
  refine G_if_ne tgt hd ht (fun h => kt ?_) (fun h => kf ?_)
  · cases b
    · exact absurd rfl h
    · rfl
  · cases b
    · rfl
    · exact absurd h (by decide)
theorem G_bret {b : Bool} (hd : decode μ.2.1 pc = .ok (.ireturn, 1)) (hr : μ.2.2.2 = some .boolean) (hn : nc ≤ mc ∧ ns ≤ ms) (hp : post (some (.int (g_b b))) M) : G μ d mc ms post nc ns M al pc [.int (g_b b)] := G_zret hd hr (g_b_nar b) hn hp
end GB
