set_option maxRecDepth 20000 in
set_option maxHeartbeats 2000000 in
theorem ci_X2_init {d : Nat} {post : gPost} {I : gI} {J : gJ} {P : Nat → Nat → Option Nat} (a : Nat) (ha : a ≤ 1000) (hk0 : gK0 a = .inl 2) (hk1 : gK0 (a + 1) = .inr (0, 3)) (hk2 : gK0 (a + 2) = .inr (0, 3)) (hf : ∀ b, a + 1 ≤ b → ∀ k, I b k = 0 ∧ J b k = 0 ∧ P b k = none) (hp : post none (gK0, I, J, (g_u (g_u P a 8 (some (a + 1))) a 9 (some (a + 2))), (a + 3))) : gMet mX2_init (d + 0) 2 6 [.ref a] (gK0, I, J, P, (a + 1)) post := by
  refine gMet.of (al := [some (.ref a)]) (by decide) rfl (Nat.le_of_ble_eq_true rfl) ?_
  refine G_aload_n dX2_init_0 rfl ?_
  refine G_objinit ml_X2_3 dX2_init_1 (Nat.le_of_ble_eq_true rfl) oi_w ?_
  refine G_aload_n dX2_init_4 rfl ?_
  refine G_iconst 3 dX2_init_5 (by decide) ?_
  refine G_newa (t := 0) (N := 3) dX2_init_6 (by decide) rfl ac_84 ⟨by decide, by decide⟩ (by decide) hk1 (fun k => by simp [g_u, g_cs, g_csd, g_cp, g_r, (hf (a + 1) (by omega) k).1]) (fun k => by simp [g_u, g_cs, g_csd, g_cp, g_r, (hf (a + 1) (by omega) k).2.1]) (by omega) ⟨by decide, by decide⟩ ?_
  show G mX2_init (d + 0) 2 6 post 1 3 (gK0, I, J, P, (a + 2)) [some (.ref a)] 8 [.ref (a + 1), .ref a]
  refine G_putr fl_X2_9 dX2_init_8 ⟨hk0, by omega⟩ rfl (Or.inr ⟨rfl, rfl, rfl⟩) (fun _ => ⟨rfl, rfl⟩) ?_
  show G mX2_init (d + 0) 2 6 post 1 3 (gK0, I, J, (g_u P a 8 (some (a + 1))), (a + 2)) [some (.ref a)] 11 []
  refine G_aload_n dX2_init_11 rfl ?_
  refine G_iconst 3 dX2_init_12 (by decide) ?_
  refine G_newa (t := 0) (N := 3) dX2_init_13 (by decide) rfl ac_84 ⟨by decide, by decide⟩ (by decide) hk2 (fun k => by simp [g_u, g_cs, g_csd, g_cp, g_r, (hf (a + 2) (by omega) k).1]) (fun k => by simp [g_u, g_cs, g_csd, g_cp, g_r, (hf (a + 2) (by omega) k).2.1]) (by omega) ⟨by decide, by decide⟩ ?_
  show G mX2_init (d + 0) 2 6 post 2 6 (gK0, I, J, (g_u P a 8 (some (a + 1))), (a + 3)) [some (.ref a)] 15 [.ref (a + 2), .ref a]
  refine G_putr fl_X2_15 dX2_init_15 ⟨hk0, by omega⟩ rfl (Or.inr ⟨rfl, rfl, rfl⟩) (fun _ => ⟨rfl, rfl⟩) ?_
  show G mX2_init (d + 0) 2 6 post 2 6 (gK0, I, J, (g_u (g_u P a 8 (some (a + 1))) a 9 (some (a + 2))), (a + 3)) [some (.ref a)] 18 []
  exact G_vret dX2_init_18 rfl (by decide) hp
set_option maxRecDepth 20000 in
set_option maxHeartbeats 2000000 in
theorem ci_X6_init {d : Nat} {post : gPost} {I : gI} {J : gJ} {P : Nat → Nat → Option Nat} (a : Nat) (ha : a ≤ 1000) (hk0 : gK0 a = .inl 6) (hk1 : gK0 (a + 1) = .inr (0, 8)) (hf : ∀ b, a + 1 ≤ b → ∀ k, I b k = 0 ∧ J b k = 0 ∧ P b k = none) (hp : post none (gK0, (g_cs I 0 (a + 1) 8), J, (g_u P a 0 (some (a + 1))), (a + 2))) : gMet mX6_init (d + 0) 1 8 [.ref a] (gK0, I, J, P, (a + 1)) post := by
  refine gMet.of (al := [some (.ref a)]) (by decide) rfl (Nat.le_of_ble_eq_true rfl) ?_
  refine G_aload_n dX6_init_0 rfl ?_
  refine G_objinit ml_X6_3 dX6_init_1 (Nat.le_of_ble_eq_true rfl) oi_w ?_
  refine G_aload_n dX6_init_4 rfl ?_
  refine G_bipush 8 dX6_init_5 (by decide) ?_
  refine G_newa (t := 0) (N := 8) dX6_init_7 (by decide) rfl ac_84 ⟨by decide, by decide⟩ (by decide) hk1 (fun k => by simp [g_u, g_cs, g_csd, g_cp, g_r, (hf (a + 1) (by omega) k).1]) (fun k => by simp [g_u, g_cs, g_csd, g_cp, g_r, (hf (a + 1) (by omega) k).2.1]) (by omega) ⟨by decide, by decide⟩ ?_
  show G mX6_init (d + 0) 1 8 post 1 8 (gK0, I, J, P, (a + 2)) [some (.ref a)] 9 [.ref (a + 1), .ref a]
  refine G_putr fl_X6_11 dX6_init_9 ⟨hk0, by omega⟩ rfl (Or.inr ⟨rfl, rfl, rfl⟩) (fun _ => ⟨rfl, rfl⟩) ?_
  show G mX6_init (d + 0) 1 8 post 1 8 (gK0, I, J, (g_u P a 0 (some (a + 1))), (a + 2)) [some (.ref a)] 12 []
  refine G_gets 0 dX6_init_12 (by decide) st_X6_15 ?_
  show G mX6_init (d + 0) 1 8 post 1 8 (gK0, I, J, (g_u P a 0 (some (a + 1))), (a + 2)) [some (.ref a)] 15 [.ref 1000000]
  refine G_iconst 0 dX6_init_15 (by decide) ?_
  refine G_aload_n dX6_init_16 rfl ?_
  refine G_getr (b := (a + 1)) fl_X6_11 dX6_init_17 ⟨hk0, by omega⟩ rfl (by simp [g_u, g_r]) ?_
  refine G_iconst 0 dX6_init_20 (by decide) ?_
  refine G_bipush 8 dX6_init_21 (by decide) ?_
  refine G_copyt (n1 := 8) 0 8 dX6_init_23 (by decide) ⟨hk1, by omega⟩ ml_X6_18 (by decide) (by decide) (by decide) (Nat.le_of_ble_eq_true rfl) ?_
  show G mX6_init (d + 0) 1 8 post 1 8 (gK0, (g_cs I 0 (a + 1) 8), J, (g_u P a 0 (some (a + 1))), (a + 2)) [some (.ref a)] 26 []
  exact G_vret dX6_init_26 rfl (by decide) hp
set_option maxRecDepth 20000 in
set_option maxHeartbeats 2000000 in
theorem ci_X5_init {d : Nat} {post : gPost} {I : gI} {J : gJ} {P : Nat → Nat → Option Nat} (a : Nat) (ha : a ≤ 1000) (hk0 : gK0 a = .inl 5) (hk1 : gK0 (a + 1) = .inr (0, 5)) (hf : ∀ b, a + 1 ≤ b → ∀ k, I b k = 0 ∧ J b k = 0 ∧ P b k = none) (hp : post none (gK0, (g_u (g_u I (a + 1) 0 0) a 1 1), J, (g_u P a 0 (some (a + 1))), (a + 2))) : gMet mX5_init (d + 0) 1 5 [.ref a] (gK0, I, J, P, (a + 1)) post := by
  refine gMet.of (al := [some (.ref a)]) (by decide) rfl (Nat.le_of_ble_eq_true rfl) ?_
  refine G_aload_n dX5_init_0 rfl ?_
  refine G_objinit ml_X5_3 dX5_init_1 (Nat.le_of_ble_eq_true rfl) oi_w ?_
  refine G_aload_n dX5_init_4 rfl ?_
  refine G_iconst 5 dX5_init_5 (by decide) ?_
  refine G_newa (t := 0) (N := 5) dX5_init_6 (by decide) rfl ac_84 ⟨by decide, by decide⟩ (by decide) hk1 (fun k => by simp [g_u, g_cs, g_csd, g_cp, g_r, (hf (a + 1) (by omega) k).1]) (fun k => by simp [g_u, g_cs, g_csd, g_cp, g_r, (hf (a + 1) (by omega) k).2.1]) (by omega) ⟨by decide, by decide⟩ ?_
  show G mX5_init (d + 0) 1 5 post 1 5 (gK0, I, J, P, (a + 2)) [some (.ref a)] 8 [.ref (a + 1), .ref a]
  refine G_putr fl_X5_11 dX5_init_8 ⟨hk0, by omega⟩ rfl (Or.inr ⟨rfl, rfl, rfl⟩) (fun _ => ⟨rfl, rfl⟩) ?_
  show G mX5_init (d + 0) 1 5 post 1 5 (gK0, I, J, (g_u P a 0 (some (a + 1))), (a + 2)) [some (.ref a)] 11 []
  refine G_aload_n dX5_init_11 rfl ?_
  refine G_getr (b := (a + 1)) fl_X5_11 dX5_init_12 ⟨hk0, by omega⟩ rfl (by simp [g_u, g_r]) ?_
  refine G_iconst 0 dX5_init_15 (by decide) ?_
  refine G_iconst 0 dX5_init_16 (by decide) ?_
  refine G_iast dX5_init_17 ⟨hk1, by omega⟩ (g_in_vp (by decide)) ?_
  show G mX5_init (d + 0) 1 5 post 1 5 (gK0, (g_u I (a + 1) 0 0), J, (g_u P a 0 (some (a + 1))), (a + 2)) [some (.ref a)] 18 []
  refine G_aload_n dX5_init_18 rfl ?_
  refine G_iconst 1 dX5_init_19 (by decide) ?_
  refine G_puti fl_X5_15 dX5_init_20 ⟨hk0, by omega⟩ rfl (Or.inl rfl) ⟨rfl, rfl⟩ ?_
  show G mX5_init (d + 0) 1 5 post 1 5 (gK0, (g_u (g_u I (a + 1) 0 0) a 1 1), J, (g_u P a 0 (some (a + 1))), (a + 2)) [some (.ref a)] 23 []
  exact G_vret dX5_init_23 rfl (by decide) hp
set_option maxRecDepth 20000 in
set_option maxHeartbeats 2000000 in
theorem ci_X4_init {d : Nat} {post : gPost} {I : gI} {J : gJ} {P : Nat → Nat → Option Nat} (a : Nat) (ha : a ≤ 1000) (hk0 : gK0 a = .inl 4) (hk1 : gK0 (a + 1) = .inr (0, 40)) (hf : ∀ b, a + 1 ≤ b → ∀ k, I b k = 0 ∧ J b k = 0 ∧ P b k = none) (x1 : Int32) (x2 : Int32) (x3 : Int32) (hp : post none (gK0, (g_u (g_u (g_u I a 0 x1) a 1 x2) a 2 x3), J, (g_u P a 3 (some (a + 1))), (a + 2))) : gMet mX4_init (d + 0) 1 40 [.ref a, .int x1, .int x2, .int x3] (gK0, I, J, P, (a + 1)) post := by
  refine gMet.of (al := [some (.ref a), some (.int x1), some (.int x2), some (.int x3)]) (by decide) rfl (Nat.le_of_ble_eq_true rfl) ?_
  refine G_aload_n dX4_init_0 rfl ?_
  refine G_objinit ml_X4_1 dX4_init_1 (Nat.le_of_ble_eq_true rfl) oi_w ?_
  refine G_aload_n dX4_init_4 rfl ?_
  refine G_iload_n dX4_init_5 rfl ?_
  refine G_puti fl_X4_7 dX4_init_6 ⟨hk0, by omega⟩ rfl (Or.inr ⟨rfl, rfl, rfl⟩) ⟨rfl, rfl⟩ ?_
  show G mX4_init (d + 0) 1 40 post 0 0 (gK0, (g_u I a 0 x1), J, P, (a + 1)) [some (.ref a), some (.int x1), some (.int x2), some (.int x3)] 9 []
  refine G_aload_n dX4_init_9 rfl ?_
  refine G_iload_n dX4_init_10 rfl ?_
  refine G_puti fl_X4_13 dX4_init_11 ⟨hk0, by omega⟩ rfl (Or.inr ⟨rfl, rfl, rfl⟩) ⟨rfl, rfl⟩ ?_
  show G mX4_init (d + 0) 1 40 post 0 0 (gK0, (g_u (g_u I a 0 x1) a 1 x2), J, P, (a + 1)) [some (.ref a), some (.int x1), some (.int x2), some (.int x3)] 14 []
  refine G_aload_n dX4_init_14 rfl ?_
  refine G_iload_n dX4_init_15 rfl ?_
  refine G_puti fl_X4_16 dX4_init_16 ⟨hk0, by omega⟩ rfl (Or.inr ⟨rfl, rfl, rfl⟩) ⟨rfl, rfl⟩ ?_
  show G mX4_init (d + 0) 1 40 post 0 0 (gK0, (g_u (g_u (g_u I a 0 x1) a 1 x2) a 2 x3), J, P, (a + 1)) [some (.ref a), some (.int x1), some (.int x2), some (.int x3)] 19 []
  refine G_aload_n dX4_init_19 rfl ?_
  refine G_bipush 40 dX4_init_20 (by decide) ?_
  refine G_newa (t := 0) (N := 40) dX4_init_22 (by decide) rfl ac_84 ⟨by decide, by decide⟩ (by decide) hk1 (fun k => by simp [g_u, g_cs, g_csd, g_cp, g_r, (hf (a + 1) (by omega) k).1]) (fun k => by simp [g_u, g_cs, g_csd, g_cp, g_r, (hf (a + 1) (by omega) k).2.1]) (by omega) ⟨by decide, by decide⟩ ?_
  show G mX4_init (d + 0) 1 40 post 1 40 (gK0, (g_u (g_u (g_u I a 0 x1) a 1 x2) a 2 x3), J, P, (a + 2)) [some (.ref a), some (.int x1), some (.int x2), some (.int x3)] 24 [.ref (a + 1), .ref a]
  refine G_putr fl_X4_19 dX4_init_24 ⟨hk0, by omega⟩ rfl (Or.inr ⟨rfl, rfl, rfl⟩) (fun _ => ⟨rfl, rfl⟩) ?_
  show G mX4_init (d + 0) 1 40 post 1 40 (gK0, (g_u (g_u (g_u I a 0 x1) a 1 x2) a 2 x3), J, (g_u P a 3 (some (a + 1))), (a + 2)) [some (.ref a), some (.int x1), some (.int x2), some (.int x3)] 27 []
  exact G_vret dX4_init_27 rfl (by decide) hp
set_option maxRecDepth 20000 in
set_option maxHeartbeats 2000000 in
theorem ci_X8_init {d : Nat} {post : gPost} {I : gI} {J : gJ} {P : Nat → Nat → Option Nat} (hf : ∀ b, 40 ≤ b → ∀ k, I b k = 0 ∧ J b k = 0 ∧ P b k = none) (hp : post none (gK0, (g_u I 39 4 (-1)), J, (g_u P 39 0 (some 40)), 41)) : gMet mX8_init (d + 0) 1 100 [.ref 39] (gK0, I, J, P, 40) post := by
  refine gMet.of (al := [some (.ref 39)]) (by decide) rfl (Nat.le_of_ble_eq_true rfl) ?_
  refine G_aload_n dX8_init_0 rfl ?_
  refine G_objinit ml_X8_3 dX8_init_1 (Nat.le_of_ble_eq_true rfl) oi_w ?_
  refine G_aload_n dX8_init_4 rfl ?_
  refine G_bipush 100 dX8_init_5 (by decide) ?_
  refine G_newa (t := 0) (N := 100) dX8_init_7 (by decide) rfl ac_84 ⟨by decide, by decide⟩ (by decide) (by decide +kernel) (fun k => by simp [g_u, g_cs, g_csd, g_cp, g_r, (hf 40 (by decide) k).1]) (fun k => by simp [g_u, g_cs, g_csd, g_cp, g_r, (hf 40 (by decide) k).2.1]) (by decide) ⟨by decide, by decide⟩ ?_
  show G mX8_init (d + 0) 1 100 post 1 100 (gK0, I, J, P, 41) [some (.ref 39)] 9 [.ref 40, .ref 39]
  refine G_putr fl_X8_11 dX8_init_9 ⟨by decide +kernel, by decide⟩ rfl (Or.inr ⟨rfl, rfl, rfl⟩) (fun _ => ⟨rfl, rfl⟩) ?_
  show G mX8_init (d + 0) 1 100 post 1 100 (gK0, I, J, (g_u P 39 0 (some 40)), 41) [some (.ref 39)] 12 []
  refine G_aload_n dX8_init_12 rfl ?_
  refine G_iconst (-1) dX8_init_13 (by decide) ?_
  refine G_puti fl_X8_15 dX8_init_14 ⟨by decide +kernel, by decide⟩ rfl (Or.inl rfl) ⟨rfl, rfl⟩ ?_
  show G mX8_init (d + 0) 1 100 post 1 100 (gK0, (g_u I 39 4 (-1)), J, (g_u P 39 0 (some 40)), 41) [some (.ref 39)] 17 []
  exact G_vret dX8_init_17 rfl (by decide) hp
set_option maxRecDepth 20000 in
set_option maxHeartbeats 2000000 in
theorem ci_X7_init {d : Nat} {post : gPost} {I : gI} {J : gJ} {P : Nat → Nat → Option Nat} (hf : ∀ b, 57 ≤ b → ∀ k, I b k = 0 ∧ J b k = 0 ∧ P b k = none) (hp : post none (gK0, I, J, (g_u (g_u (g_u P 56 3 (some 57)) 56 4 (some 58)) 56 5 (some 59)), 60)) : gMet mX7_init (d + 0) 3 26 [.ref 56] (gK0, I, J, P, 57) post := by
  refine gMet.of (al := [some (.ref 56)]) (by decide) rfl (Nat.le_of_ble_eq_true rfl) ?_
  refine G_aload_n dX7_init_0 rfl ?_
  refine G_objinit ml_X7_3 dX7_init_1 (Nat.le_of_ble_eq_true rfl) oi_w ?_
  refine G_aload_n dX7_init_4 rfl ?_
  refine G_iconst 2 dX7_init_5 (by decide) ?_
  refine G_newa (t := 0) (N := 2) dX7_init_6 (by decide) rfl ac_84 ⟨by decide, by decide⟩ (by decide) (by decide +kernel) (fun k => by simp [g_u, g_cs, g_csd, g_cp, g_r, (hf 57 (by decide) k).1]) (fun k => by simp [g_u, g_cs, g_csd, g_cp, g_r, (hf 57 (by decide) k).2.1]) (by decide) ⟨by decide, by decide⟩ ?_
  show G mX7_init (d + 0) 3 26 post 1 2 (gK0, I, J, P, 58) [some (.ref 56)] 8 [.ref 57, .ref 56]
  refine G_putr fl_X7_9 dX7_init_8 ⟨by decide +kernel, by decide⟩ rfl (Or.inr ⟨rfl, rfl, rfl⟩) (fun _ => ⟨rfl, rfl⟩) ?_
  show G mX7_init (d + 0) 3 26 post 1 2 (gK0, I, J, (g_u P 56 3 (some 57)), 58) [some (.ref 56)] 11 []
  refine G_aload_n dX7_init_11 rfl ?_
  refine G_bipush 12 dX7_init_12 (by decide) ?_
  refine G_newa (t := 2) (N := 12) dX7_init_14 (by decide) rfl ac_176 ⟨by decide, by decide⟩ (by decide) (by decide +kernel) (fun k => by simp [g_u, g_cs, g_csd, g_cp, g_r, (hf 58 (by decide) k).1]) (fun k => by simp [g_u, g_cs, g_csd, g_cp, g_r, (hf 58 (by decide) k).2.1]) (by decide) ⟨by decide, by decide⟩ ?_
  show G mX7_init (d + 0) 3 26 post 2 14 (gK0, I, J, (g_u P 56 3 (some 57)), 59) [some (.ref 56)] 16 [.ref 58, .ref 56]
  refine G_putr fl_X7_17 dX7_init_16 ⟨by decide +kernel, by decide⟩ rfl (Or.inr ⟨rfl, rfl, rfl⟩) (fun _ => ⟨rfl, rfl⟩) ?_
  show G mX7_init (d + 0) 3 26 post 2 14 (gK0, I, J, (g_u (g_u P 56 3 (some 57)) 56 4 (some 58)), 59) [some (.ref 56)] 19 []
  refine G_aload_n dX7_init_19 rfl ?_
  refine G_bipush 12 dX7_init_20 (by decide) ?_
  refine G_newa (t := 2) (N := 12) dX7_init_22 (by decide) rfl ac_176 ⟨by decide, by decide⟩ (by decide) (by decide +kernel) (fun k => by simp [g_u, g_cs, g_csd, g_cp, g_r, (hf 59 (by decide) k).1]) (fun k => by simp [g_u, g_cs, g_csd, g_cp, g_r, (hf 59 (by decide) k).2.1]) (by decide) ⟨by decide, by decide⟩ ?_
  show G mX7_init (d + 0) 3 26 post 3 26 (gK0, I, J, (g_u (g_u P 56 3 (some 57)) 56 4 (some 58)), 60) [some (.ref 56)] 24 [.ref 59, .ref 56]
  refine G_putr fl_X7_21 dX7_init_24 ⟨by decide +kernel, by decide⟩ rfl (Or.inr ⟨rfl, rfl, rfl⟩) (fun _ => ⟨rfl, rfl⟩) ?_
  show G mX7_init (d + 0) 3 26 post 3 26 (gK0, I, J, (g_u (g_u (g_u P 56 3 (some 57)) 56 4 (some 58)) 56 5 (some 59)), 60) [some (.ref 56)] 27 []
  exact G_vret dX7_init_27 rfl (by decide) hp
set_option maxRecDepth 20000 in
set_option maxHeartbeats 2000000 in
theorem ci_X3_init {d : Nat} {post : gPost} {I : gI} {J : gJ} {P : Nat → Nat → Option Nat} (hf : ∀ b, 61 ≤ b → ∀ k, I b k = 0 ∧ J b k = 0 ∧ P b k = none) (hp : post none (gK0, (g_csd (g_cs I 3 61 15) 3 61 15 15), J, (g_u (g_u (g_u (g_u P 60 0 (some 61)) 60 2 (some 62)) 60 3 (some 63)) 60 4 (some 64)), 65)) : gMet mX3_init (d + 0) 4 87 [.ref 60] (gK0, I, J, P, 61) post := by
  refine gMet.of (al := [some (.ref 60)]) (by decide) rfl (Nat.le_of_ble_eq_true rfl) ?_
  refine G_aload_n dX3_init_0 rfl ?_
  refine G_objinit ml_X3_5 dX3_init_1 (Nat.le_of_ble_eq_true rfl) oi_w ?_
  refine G_aload_n dX3_init_4 rfl ?_
  refine G_bipush 30 dX3_init_5 (by decide) ?_
  refine G_newa (t := 0) (N := 30) dX3_init_7 (by decide) rfl ac_84 ⟨by decide, by decide⟩ (by decide) (by decide +kernel) (fun k => by simp [g_u, g_cs, g_csd, g_cp, g_r, (hf 61 (by decide) k).1]) (fun k => by simp [g_u, g_cs, g_csd, g_cp, g_r, (hf 61 (by decide) k).2.1]) (by decide) ⟨by decide, by decide⟩ ?_
  show G mX3_init (d + 0) 4 87 post 1 30 (gK0, I, J, P, 62) [some (.ref 60)] 9 [.ref 61, .ref 60]
  refine G_putr fl_X3_11 dX3_init_9 ⟨by decide +kernel, by decide⟩ rfl (Or.inr ⟨rfl, rfl, rfl⟩) (fun _ => ⟨rfl, rfl⟩) ?_
  show G mX3_init (d + 0) 4 87 post 1 30 (gK0, I, J, (g_u P 60 0 (some 61)), 62) [some (.ref 60)] 12 []
  refine G_gets 3 dX3_init_12 (by decide) st_X3_15 ?_
  show G mX3_init (d + 0) 4 87 post 1 30 (gK0, I, J, (g_u P 60 0 (some 61)), 62) [some (.ref 60)] 15 [.ref 1000003]
  refine G_iconst 0 dX3_init_15 (by decide) ?_
  refine G_aload_n dX3_init_16 rfl ?_
  refine G_getr (b := 61) fl_X3_11 dX3_init_17 ⟨by decide +kernel, by decide⟩ rfl (by simp [g_u, g_r]) ?_
  refine G_iconst 0 dX3_init_20 (by decide) ?_
  refine G_bipush 15 dX3_init_21 (by decide) ?_
  refine G_copyt (n1 := 30) 3 15 dX3_init_23 (by decide) ⟨by decide +kernel, by decide⟩ ml_X3_18 (by decide) (by decide) (by decide) (Nat.le_of_ble_eq_true rfl) ?_
  show G mX3_init (d + 0) 4 87 post 1 30 (gK0, (g_cs I 3 61 15), J, (g_u P 60 0 (some 61)), 62) [some (.ref 60)] 26 []
  refine G_gets 3 dX3_init_26 (by decide) st_X3_15 ?_
  show G mX3_init (d + 0) 4 87 post 1 30 (gK0, (g_cs I 3 61 15), J, (g_u P 60 0 (some 61)), 62) [some (.ref 60)] 29 [.ref 1000003]
  refine G_iconst 0 dX3_init_29 (by decide) ?_
  refine G_aload_n dX3_init_30 rfl ?_
  refine G_getr (b := 61) fl_X3_11 dX3_init_31 ⟨by decide +kernel, by decide⟩ rfl (by simp [g_u, g_r]) ?_
  refine G_bipush 15 dX3_init_34 (by decide) ?_
  refine G_bipush 15 dX3_init_36 (by decide) ?_
  refine G_copytd (n1 := 30) 3 15 15 dX3_init_38 (by decide) ⟨by decide +kernel, by decide⟩ ml_X3_18 (by decide) (by decide) (by decide) (by decide) (Nat.le_of_ble_eq_true rfl) ?_
  show G mX3_init (d + 0) 4 87 post 1 30 (gK0, (g_csd (g_cs I 3 61 15) 3 61 15 15), J, (g_u P 60 0 (some 61)), 62) [some (.ref 60)] 41 []
  refine G_aload_n dX3_init_41 rfl ?_
  refine G_bipush 19 dX3_init_42 (by decide) ?_
  refine G_newa (t := 2) (N := 19) dX3_init_44 (by decide) rfl ac_176 ⟨by decide, by decide⟩ (by decide) (by decide +kernel) (fun k => by simp [g_u, g_cs, g_csd, g_cp, g_r, (hf 62 (by decide) k).1]) (fun k => by simp [g_u, g_cs, g_csd, g_cp, g_r, (hf 62 (by decide) k).2.1]) (by decide) ⟨by decide, by decide⟩ ?_
  show G mX3_init (d + 0) 4 87 post 2 49 (gK0, (g_csd (g_cs I 3 61 15) 3 61 15 15), J, (g_u P 60 0 (some 61)), 63) [some (.ref 60)] 46 [.ref 62, .ref 60]
  refine G_putr fl_X3_24 dX3_init_46 ⟨by decide +kernel, by decide⟩ rfl (Or.inr ⟨rfl, rfl, rfl⟩) (fun _ => ⟨rfl, rfl⟩) ?_
  show G mX3_init (d + 0) 4 87 post 2 49 (gK0, (g_csd (g_cs I 3 61 15) 3 61 15 15), J, (g_u (g_u P 60 0 (some 61)) 60 2 (some 62)), 63) [some (.ref 60)] 49 []
  refine G_aload_n dX3_init_49 rfl ?_
  refine G_bipush 19 dX3_init_50 (by decide) ?_
  refine G_newa (t := 2) (N := 19) dX3_init_52 (by decide) rfl ac_176 ⟨by decide, by decide⟩ (by decide) (by decide +kernel) (fun k => by simp [g_u, g_cs, g_csd, g_cp, g_r, (hf 63 (by decide) k).1]) (fun k => by simp [g_u, g_cs, g_csd, g_cp, g_r, (hf 63 (by decide) k).2.1]) (by decide) ⟨by decide, by decide⟩ ?_
  show G mX3_init (d + 0) 4 87 post 3 68 (gK0, (g_csd (g_cs I 3 61 15) 3 61 15 15), J, (g_u (g_u P 60 0 (some 61)) 60 2 (some 62)), 64) [some (.ref 60)] 54 [.ref 63, .ref 60]
  refine G_putr fl_X3_28 dX3_init_54 ⟨by decide +kernel, by decide⟩ rfl (Or.inr ⟨rfl, rfl, rfl⟩) (fun _ => ⟨rfl, rfl⟩) ?_
  show G mX3_init (d + 0) 4 87 post 3 68 (gK0, (g_csd (g_cs I 3 61 15) 3 61 15 15), J, (g_u (g_u (g_u P 60 0 (some 61)) 60 2 (some 62)) 60 3 (some 63)), 64) [some (.ref 60)] 57 []
  refine G_aload_n dX3_init_57 rfl ?_
  refine G_bipush 19 dX3_init_58 (by decide) ?_
  refine G_newa (t := 0) (N := 19) dX3_init_60 (by decide) rfl ac_84 ⟨by decide, by decide⟩ (by decide) (by decide +kernel) (fun k => by simp [g_u, g_cs, g_csd, g_cp, g_r, (hf 64 (by decide) k).1]) (fun k => by simp [g_u, g_cs, g_csd, g_cp, g_r, (hf 64 (by decide) k).2.1]) (by decide) ⟨by decide, by decide⟩ ?_
  show G mX3_init (d + 0) 4 87 post 4 87 (gK0, (g_csd (g_cs I 3 61 15) 3 61 15 15), J, (g_u (g_u (g_u P 60 0 (some 61)) 60 2 (some 62)) 60 3 (some 63)), 65) [some (.ref 60)] 62 [.ref 64, .ref 60]
  refine G_putr fl_X3_31 dX3_init_62 ⟨by decide +kernel, by decide⟩ rfl (Or.inr ⟨rfl, rfl, rfl⟩) (fun _ => ⟨rfl, rfl⟩) ?_
  show G mX3_init (d + 0) 4 87 post 4 87 (gK0, (g_csd (g_cs I 3 61 15) 3 61 15 15), J, (g_u (g_u (g_u (g_u P 60 0 (some 61)) 60 2 (some 62)) 60 3 (some 63)) 60 4 (some 64)), 65) [some (.ref 60)] 65 []
  exact G_vret dX3_init_65 rfl (by decide) hp
